/-! the law's own table, in pieces, by wip/whole/gen/gen3.py -/
set_option maxRecDepth 100000 in
theorem vL_0 : (((tb 174).drop 0).take 60).all (vE (my 174).cls (mb 174) (tb 174) (mx 174) false) = true := by decide +kernel
set_option maxRecDepth 100000 in
theorem vL_1 : (((tb 174).drop 60).take 60).all (vE (my 174).cls (mb 174) (tb 174) (mx 174) false) = true := by decide +kernel
set_option maxRecDepth 100000 in
theorem vL_2 : (((tb 174).drop 120).take 60).all (vE (my 174).cls (mb 174) (tb 174) (mx 174) false) = true := by decide +kernel
set_option maxRecDepth 100000 in
theorem vL_3 : (((tb 174).drop 180).take 60).all (vE (my 174).cls (mb 174) (tb 174) (mx 174) false) = true := by decide +kernel
set_option maxRecDepth 100000 in
theorem vL_4 : (((tb 174).drop 240).take 60).all (vE (my 174).cls (mb 174) (tb 174) (mx 174) false) = true := by decide +kernel
set_option maxRecDepth 100000 in
theorem vL_5 : (((tb 174).drop 300).take 60).all (vE (my 174).cls (mb 174) (tb 174) (mx 174) false) = true := by decide +kernel
set_option maxRecDepth 100000 in
theorem vL_6 : (((tb 174).drop 360).take 60).all (vE (my 174).cls (mb 174) (tb 174) (mx 174) false) = true := by decide +kernel
set_option maxRecDepth 100000 in
theorem vL_7 : (((tb 174).drop 420).take 60).all (vE (my 174).cls (mb 174) (tb 174) (mx 174) false) = true := by decide +kernel
set_option maxRecDepth 100000 in
theorem vL_8 : (((tb 174).drop 480).take 60).all (vE (my 174).cls (mb 174) (tb 174) (mx 174) false) = true := by decide +kernel
set_option maxRecDepth 100000 in
theorem vL_9 : (((tb 174).drop 540).take 60).all (vE (my 174).cls (mb 174) (tb 174) (mx 174) false) = true := by decide +kernel
set_option maxRecDepth 100000 in
theorem vL_10 : (((tb 174).drop 600).take 60).all (vE (my 174).cls (mb 174) (tb 174) (mx 174) false) = true := by decide +kernel
set_option maxRecDepth 100000 in
theorem vL_11 : (((tb 174).drop 660).take 60).all (vE (my 174).cls (mb 174) (tb 174) (mx 174) false) = true := by decide +kernel
set_option maxRecDepth 100000 in
theorem vL_12 : (((tb 174).drop 720).take 60).all (vE (my 174).cls (mb 174) (tb 174) (mx 174) false) = true := by decide +kernel
set_option maxRecDepth 100000 in
theorem vL_13 : (((tb 174).drop 780).take 60).all (vE (my 174).cls (mb 174) (tb 174) (mx 174) false) = true := by decide +kernel
set_option maxRecDepth 100000 in
theorem vL_14 : (((tb 174).drop 840).take 60).all (vE (my 174).cls (mb 174) (tb 174) (mx 174) false) = true := by decide +kernel
set_option maxRecDepth 100000 in
theorem vL_15 : (((tb 174).drop 900).take 60).all (vE (my 174).cls (mb 174) (tb 174) (mx 174) false) = true := by decide +kernel
theorem all_cut {α : Type} {f : α → Bool} {l : List α} (n : Nat) (h1 : (l.take n).all f = true) (h2 : (l.drop n).all f = true) : l.all f = true := by
  rw [← List.take_append_drop n l, List.all_append, h1, h2]; rfl
theorem vL_end : ((tb 174).drop 900).all (vE (my 174).cls (mb 174) (tb 174) (mx 174) false) = true := by
  have h : ((tb 174).drop 900).take 60 = (tb 174).drop 900 := List.take_of_length_le (by rw [List.length_drop]; decide +kernel)
  rw [← h]; exact vL_15
theorem vX_14 : ((tb 174).drop 840).all (vE (my 174).cls (mb 174) (tb 174) (mx 174) false) = true := all_cut 60 vL_14 (by rw [List.drop_drop]; exact vL_end)
theorem vX_13 : ((tb 174).drop 780).all (vE (my 174).cls (mb 174) (tb 174) (mx 174) false) = true := all_cut 60 vL_13 (by rw [List.drop_drop]; exact vX_14)
theorem vX_12 : ((tb 174).drop 720).all (vE (my 174).cls (mb 174) (tb 174) (mx 174) false) = true := all_cut 60 vL_12 (by rw [List.drop_drop]; exact vX_13)
theorem vX_11 : ((tb 174).drop 660).all (vE (my 174).cls (mb 174) (tb 174) (mx 174) false) = true := all_cut 60 vL_11 (by rw [List.drop_drop]; exact vX_12)
theorem vX_10 : ((tb 174).drop 600).all (vE (my 174).cls (mb 174) (tb 174) (mx 174) false) = true := all_cut 60 vL_10 (by rw [List.drop_drop]; exact vX_11)
theorem vX_9 : ((tb 174).drop 540).all (vE (my 174).cls (mb 174) (tb 174) (mx 174) false) = true := all_cut 60 vL_9 (by rw [List.drop_drop]; exact vX_10)
theorem vX_8 : ((tb 174).drop 480).all (vE (my 174).cls (mb 174) (tb 174) (mx 174) false) = true := all_cut 60 vL_8 (by rw [List.drop_drop]; exact vX_9)
theorem vX_7 : ((tb 174).drop 420).all (vE (my 174).cls (mb 174) (tb 174) (mx 174) false) = true := all_cut 60 vL_7 (by rw [List.drop_drop]; exact vX_8)
theorem vX_6 : ((tb 174).drop 360).all (vE (my 174).cls (mb 174) (tb 174) (mx 174) false) = true := all_cut 60 vL_6 (by rw [List.drop_drop]; exact vX_7)
theorem vX_5 : ((tb 174).drop 300).all (vE (my 174).cls (mb 174) (tb 174) (mx 174) false) = true := all_cut 60 vL_5 (by rw [List.drop_drop]; exact vX_6)
theorem vX_4 : ((tb 174).drop 240).all (vE (my 174).cls (mb 174) (tb 174) (mx 174) false) = true := all_cut 60 vL_4 (by rw [List.drop_drop]; exact vX_5)
theorem vX_3 : ((tb 174).drop 180).all (vE (my 174).cls (mb 174) (tb 174) (mx 174) false) = true := all_cut 60 vL_3 (by rw [List.drop_drop]; exact vX_4)
theorem vX_2 : ((tb 174).drop 120).all (vE (my 174).cls (mb 174) (tb 174) (mx 174) false) = true := all_cut 60 vL_2 (by rw [List.drop_drop]; exact vX_3)
theorem vX_1 : ((tb 174).drop 60).all (vE (my 174).cls (mb 174) (tb 174) (mx 174) false) = true := all_cut 60 vL_1 (by rw [List.drop_drop]; exact vX_2)
theorem vX_0 : ((tb 174).drop 0).all (vE (my 174).cls (mb 174) (tb 174) (mx 174) false) = true := all_cut 60 vL_0 (by rw [List.drop_drop]; exact vX_1)
theorem vL : (tb 174).all (vE (my 174).cls (mb 174) (tb 174) (mx 174) false) = true := vX_0
