/-! the law's own code -/
set_option maxRecDepth 100000 in
theorem jd_320_0 : ((jk_320.drop 0).take 100).all (fun q => decide (decode code q.1 = .ok (q.2.1, q.2.2))) = true := by decide +kernel
set_option maxRecDepth 100000 in
theorem jd_320_1 : ((jk_320.drop 100).take 100).all (fun q => decide (decode code q.1 = .ok (q.2.1, q.2.2))) = true := by decide +kernel
set_option maxRecDepth 100000 in
theorem jd_320_2 : ((jk_320.drop 200).take 100).all (fun q => decide (decode code q.1 = .ok (q.2.1, q.2.2))) = true := by decide +kernel
set_option maxRecDepth 100000 in
theorem jd_320_3 : ((jk_320.drop 300).take 100).all (fun q => decide (decode code q.1 = .ok (q.2.1, q.2.2))) = true := by decide +kernel
set_option maxRecDepth 100000 in
theorem jd_320_4 : ((jk_320.drop 400).take 100).all (fun q => decide (decode code q.1 = .ok (q.2.1, q.2.2))) = true := by decide +kernel
set_option maxRecDepth 100000 in
theorem jd_320_5 : ((jk_320.drop 500).take 100).all (fun q => decide (decode code q.1 = .ok (q.2.1, q.2.2))) = true := by decide +kernel
set_option maxRecDepth 100000 in
theorem jd_320_6 : ((jk_320.drop 600).take 100).all (fun q => decide (decode code q.1 = .ok (q.2.1, q.2.2))) = true := by decide +kernel
set_option maxRecDepth 100000 in
theorem jd_320_7 : ((jk_320.drop 700).take 100).all (fun q => decide (decode code q.1 = .ok (q.2.1, q.2.2))) = true := by decide +kernel
set_option maxRecDepth 100000 in
theorem jd_320_8 : ((jk_320.drop 800).take 100).all (fun q => decide (decode code q.1 = .ok (q.2.1, q.2.2))) = true := by decide +kernel
set_option maxRecDepth 100000 in
theorem jd_320_9 : ((jk_320.drop 900).take 100).all (fun q => decide (decode code q.1 = .ok (q.2.1, q.2.2))) = true := by decide +kernel
set_option maxRecDepth 100000 in
theorem jd_320_10 : ((jk_320.drop 1000).take 100).all (fun q => decide (decode code q.1 = .ok (q.2.1, q.2.2))) = true := by decide +kernel
set_option maxRecDepth 100000 in
theorem jd_320_11 : ((jk_320.drop 1100).take 100).all (fun q => decide (decode code q.1 = .ok (q.2.1, q.2.2))) = true := by decide +kernel
set_option maxRecDepth 100000 in
theorem jd_320_12 : ((jk_320.drop 1200).take 100).all (fun q => decide (decode code q.1 = .ok (q.2.1, q.2.2))) = true := by decide +kernel
set_option maxRecDepth 100000 in
theorem jd_320_13 : ((jk_320.drop 1300).take 100).all (fun q => decide (decode code q.1 = .ok (q.2.1, q.2.2))) = true := by decide +kernel
set_option maxRecDepth 100000 in
theorem jd_320_14 : ((jk_320.drop 1400).take 100).all (fun q => decide (decode code q.1 = .ok (q.2.1, q.2.2))) = true := by decide +kernel
set_option maxRecDepth 100000 in
theorem jk_320_len : jk_320.length ≤ 1500 := by decide +kernel
theorem jd_cut {α : Type} {f : α → Bool} {n : Nat} {l : List α} (h1 : (l.take n).all f = true) (h2 : (l.drop n).all f = true) : l.all f = true := by
  rw [← List.take_append_drop n l, List.all_append, h1, h2]; rfl
theorem jd_320 : ∀ q ∈ jk_320, decode code q.1 = .ok (q.2.1, q.2.2) := by
  have h15 : (jk_320.drop 1500).all (fun q => decide (decode code q.1 = .ok (q.2.1, q.2.2))) = true := by
    rw [List.drop_eq_nil_of_le jk_320_len]; rfl
  have h14 : (jk_320.drop 1400).all (fun q => decide (decode code q.1 = .ok (q.2.1, q.2.2))) = true := jd_cut (n := 100) jd_320_14 (by rw [List.drop_drop]; exact h15)
  have h13 : (jk_320.drop 1300).all (fun q => decide (decode code q.1 = .ok (q.2.1, q.2.2))) = true := jd_cut (n := 100) jd_320_13 (by rw [List.drop_drop]; exact h14)
  have h12 : (jk_320.drop 1200).all (fun q => decide (decode code q.1 = .ok (q.2.1, q.2.2))) = true := jd_cut (n := 100) jd_320_12 (by rw [List.drop_drop]; exact h13)
  have h11 : (jk_320.drop 1100).all (fun q => decide (decode code q.1 = .ok (q.2.1, q.2.2))) = true := jd_cut (n := 100) jd_320_11 (by rw [List.drop_drop]; exact h12)
  have h10 : (jk_320.drop 1000).all (fun q => decide (decode code q.1 = .ok (q.2.1, q.2.2))) = true := jd_cut (n := 100) jd_320_10 (by rw [List.drop_drop]; exact h11)
  have h9 : (jk_320.drop 900).all (fun q => decide (decode code q.1 = .ok (q.2.1, q.2.2))) = true := jd_cut (n := 100) jd_320_9 (by rw [List.drop_drop]; exact h10)
  have h8 : (jk_320.drop 800).all (fun q => decide (decode code q.1 = .ok (q.2.1, q.2.2))) = true := jd_cut (n := 100) jd_320_8 (by rw [List.drop_drop]; exact h9)
  have h7 : (jk_320.drop 700).all (fun q => decide (decode code q.1 = .ok (q.2.1, q.2.2))) = true := jd_cut (n := 100) jd_320_7 (by rw [List.drop_drop]; exact h8)
  have h6 : (jk_320.drop 600).all (fun q => decide (decode code q.1 = .ok (q.2.1, q.2.2))) = true := jd_cut (n := 100) jd_320_6 (by rw [List.drop_drop]; exact h7)
  have h5 : (jk_320.drop 500).all (fun q => decide (decode code q.1 = .ok (q.2.1, q.2.2))) = true := jd_cut (n := 100) jd_320_5 (by rw [List.drop_drop]; exact h6)
  have h4 : (jk_320.drop 400).all (fun q => decide (decode code q.1 = .ok (q.2.1, q.2.2))) = true := jd_cut (n := 100) jd_320_4 (by rw [List.drop_drop]; exact h5)
  have h3 : (jk_320.drop 300).all (fun q => decide (decode code q.1 = .ok (q.2.1, q.2.2))) = true := jd_cut (n := 100) jd_320_3 (by rw [List.drop_drop]; exact h4)
  have h2 : (jk_320.drop 200).all (fun q => decide (decode code q.1 = .ok (q.2.1, q.2.2))) = true := jd_cut (n := 100) jd_320_2 (by rw [List.drop_drop]; exact h3)
  have h1 : (jk_320.drop 100).all (fun q => decide (decode code q.1 = .ok (q.2.1, q.2.2))) = true := jd_cut (n := 100) jd_320_1 (by rw [List.drop_drop]; exact h2)
  have h0 : (jk_320.drop 0).all (fun q => decide (decode code q.1 = .ok (q.2.1, q.2.2))) = true := jd_cut (n := 100) jd_320_0 (by rw [List.drop_drop]; exact h1)
  exact fun q hq => of_decide_eq_true (List.all_eq_true.mp h0 q hq)
