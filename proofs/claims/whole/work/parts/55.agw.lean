/-! What the book needs of the model's arrays: those ahead of the findings. Own work. -/
def AgW (A A' : Nat → Nat → Int32) : Prop := ∀ j, (j < 16 ∧ j ≠ 7) → A' j = A j
theorem AgW_b {A A' : Nat → Nat → Int32} (h : AgB A A') : AgW A A' := fun j hj => h j (by omega)
theorem gM_w {A A' : Nat → Nat → Int32} (h : AgW A A') (b : Bk) (O : Nat → Nat) (n : Nat) (p day : Int32) : gM b A' O n p day = gM b A O n p day := by
  unfold gM; rw [h 9 (by decide), h 10 (by decide)]
theorem lowF_w {A A' : Nat → Nat → Int32} (h : AgW A A') (b : Bk) (O : Nat → Nat) (n : Nat) (p day : Int32) : ∀ k, lowF b A' O n p day k = lowF b A O n p day k
  | 0 => rfl
  | k + 1 => by
    unfold lowF lwC
    rw [lowF_w h b O n p day k, h 9 (by decide), h 10 (by decide), gM_w h]
theorem numB_w {A A' : Nat → Nat → Int32} (h : AgW A A') (b : Bk) (O : Nat → Nat) (n : Nat) (p day : Int32) : numB b A' O n p day = numB b A O n p day := by
  unfold numB; rw [gM_w h, lowF_w h]
theorem gfB_w {A A' : Nat → Nat → Int32} (h : AgW A A') (b : Bk) (O : Nat → Nat) (n k c : Nat) : gfB b A' O n k c = gfB b A O n k c := by
  unfold gfB gvT; rw [numB_w h, parsF_eq (h 2 (by decide)), h 0 (by decide), h 1 (by decide), h 9 (by decide), h 10 (by decide)]
theorem asF_w {A A' : Nat → Nat → Int32} (h : AgW A A') (k c : Nat) (g : Int32) (f : Nat) : ∀ j, asF A' k c g f j = asF A k c g f j
  | 0 => rfl
  | j + 1 => by unfold asF; rw [asF_w h k c g f j, h 15 (by decide), h 2 (by decide), h 3 (by decide)]
theorem fsN_w {A A' : Nat → Nat → Int32} (h : AgW A A') (k : Nat) : fsN A' k = fsN A k := by unfold fsN; rw [h 12 (by decide)]
theorem lsN_w {A A' : Nat → Nat → Int32} (h : AgW A A') (k : Nat) : lsN A' k = lsN A k := by unfold lsN; rw [fsN_w h, h 8 (by decide)]
theorem CK_w {A A' : Nat → Nat → Int32} (h : AgW A A') {k : Nat} (hC : CK A k) : CK A' k := by
  unfold CK lastF at hC ⊢
  rw [fsN_w h, lsN_w h, h 12 (by decide), h 8 (by decide)]; exact hC
theorem asB_w {A A' : Nat → Nat → Int32} (h : AgW A A') (b : Bk) (O : Nat → Nat) (n k c : Nat) : asB b A' O n k c = asB b A O n k c := by
  unfold asB; rw [gfB_w h, asF_w h, fsN_w h, lsN_w h]
theorem pcn_w {A A' : Nat → Nat → Int32} (h : AgW A A') (k f : Nat) : ∀ j, pcn A' k f j = pcn A k f j
  | 0 => rfl
  | j + 1 => by unfold pcn; rw [pcn_w h k f j, h 15 (by decide)]
theorem plF_w {A A' : Nat → Nat → Int32} (h : AgW A A') (k : Nat) : plF A' k = plF A k := by unfold plF; rw [pcn_w h, fsN_w h, lsN_w h]
theorem rgF_w {A A' : Nat → Nat → Int32} (h : AgW A A') (c day : Int32) : ∀ k, rgF A' c day k = rgF A c day k
  | 0 => rfl
  | k + 1 => by unfold rgF; rw [rgF_w h c day k, h 4 (by decide), h 5 (by decide), h 6 (by decide)]
theorem bkStep_w {A A' : Nat → Nat → Int32} (h : AgW A A') (O : Nat → Nat) (n R : Nat) (b : Bk) (k : Nat) : bkStep A' O n R b k = bkStep A O n R b k := by
  unfold bkStep mkV hfV cN qW
  rw [asB_w h, plF_w h, rgF_w h, h 14 (by decide), h 8 (by decide), h 13 (by decide), h 0 (by decide), h 1 (by decide), h 11 (by decide), h 9 (by decide), h 10 (by decide)]
theorem ptF_w {A A' : Nat → Nat → Int32} (h : AgW A A') (k c : Nat) (g : Int32) (f : Nat) : ∀ j, ptF A' k c g f j = ptF A k c g f j
  | 0 => rfl
  | j + 1 => by unfold ptF; rw [ptF_w h k c g f j, h 15 (by decide), h 2 (by decide), h 3 (by decide)]
theorem pfB_w {A A' : Nat → Nat → Int32} (h : AgW A A') (b : Bk) (O : Nat → Nat) (n k c fm : Nat) : pfB b A' O n k c fm = pfB b A O n k c fm := by
  unfold pfB; rw [ptF_w h, gfB_w h, fsN_w h, lsN_w h]
theorem ahB_w {A A' : Nat → Nat → Int32} (h : AgW A A') (b : Bk) (O : Nat → Nat) (n x y c : Nat) : ahB b A' O n x y c = ahB b A O n x y c := by
  unfold ahB
  rw [show pfB b A' O n x c = pfB b A O n x c from funext (fun _ => pfB_w h b O n x c _), show pfB b A' O n y c = pfB b A O n y c from funext (fun _ => pfB_w h b O n y c _)]
theorem bkA_w {A A' : Nat → Nat → Int32} (h : AgW A A') (O : Nat → Nat) (n R : Nat) : ∀ i, bkA A' O n R i = bkA A O n R i
  | 0 => rfl
  | i + 1 => by unfold bkA; rw [bkA_w h O n R i, bkStep_w h]
theorem fB_w {A A' : Nat → Nat → Int32} (h : AgW A A') (n R : Nat) : fB A' n R = fB A n R := by
  unfold fB; rw [h 10 (by decide), bkA_w h]
theorem WK_w {A A' : Nat → Nat → Int32} (h : AgW A A') {k : Nat} (hW : WK A k) : WK A' k := by
  unfold WK at hW ⊢
  rw [h 8 (by decide), h 11 (by decide)]
  exact hW.imp id (fun w => ⟨w.1, CK_w h w.2.1, w.2.2⟩)
