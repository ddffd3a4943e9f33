/-! readings, as the class keeps them -/
def tn_Rr (h : tm_H) (a : Nat) (A B Fi : Int → Nat → Int) (T mC mP mT : Nat → Int) (mc rc : Int) : Prop :=
  h a = some (.inl (3, [.inr (some (a + 1)), .inr (some (a + 8)), .inr (some (a + 15)), .inr (some (a + 29)), .inr (some (a + 30)), .inr (some (a + 31)), .inr (some (a + 32)), .inl mc, .inl rc])) ∧ (∃ R : Nat → Option Nat, h (a + 1) = some (.inr (5, 6, .inr (.inr R))) ∧ ∀ c : Int, 0 ≤ c → c < 6 → R c.toNat = some (a + 2 + c.toNat)) ∧ (∃ R : Nat → Option Nat, h (a + 8) = some (.inr (5, 6, .inr (.inr R))) ∧ ∀ c : Int, 0 ≤ c → c < 6 → R c.toNat = some (a + 9 + c.toNat)) ∧ (∃ R : Nat → Option Nat, h (a + 15) = some (.inr (5, 13, .inr (.inr R))) ∧ ∀ c : Int, 0 ≤ c → c < 13 → R c.toNat = some (a + 16 + c.toNat)) ∧ h (a + 29) = some (.inr (0, 13, .inl T)) ∧ h (a + 30) = some (.inr (0, 78, .inl mC)) ∧ h (a + 31) = some (.inr (0, 78, .inl mP)) ∧ h (a + 32) = some (.inr (0, 78, .inl mT)) ∧ (∀ c : Int, 0 ≤ c → c < 6 → h (a + 2 + c.toNat) = some (.inr (0, 40, .inl (A c))) ∧ h (a + 9 + c.toNat) = some (.inr (0, 40, .inl (B c)))) ∧ ∀ t : Int, 0 ≤ t → t < 13 → h (a + 16 + t.toNat) = some (.inr (0, 6, .inl (Fi t)))
/-- a row of rows, one place of it new -/
def tn_u2 (F : Int → Nat → Int) (c p v : Int) : Int → Nat → Int := fun d => if d = c then tm_up (F c) p.toNat v else F d
theorem tn_u2_app {F : Int → Nat → Int} {c p v d q : Int} (hp : 0 ≤ p) (hq : 0 ≤ q) : tn_u2 F c p v d q.toNat = if d = c ∧ q = p then v else F d q.toNat := by
  unfold tn_u2
  by_cases c1 : d = c
  · rw [if_pos c1, tm_up_app]
    by_cases c2 : q = p
    · rw [if_pos (by omega), if_pos ⟨c1, c2⟩]
    · rw [if_neg (by omega), if_neg (fun x => c2 x.2), c1]
  · rw [if_neg c1, if_neg (fun x => c1 x.1)]
section RDR
variable {h : tm_H} {a : Nat} {A B Fi : Int → Nat → Int} {T mC mP mT : Nat → Int} {mc rc : Int}
theorem tn_Rr.cg {h' : tm_H} (H : tn_Rr h a A B Fi T mC mP mT mc rc) (e : tn_eq a (a + 33) h h') : tn_Rr h' a A B Fi T mC mP mT mc rc := by
  obtain ⟨h1, ⟨R1, h2, h2'⟩, ⟨R2, h3, h3'⟩, ⟨R3, h4, h4'⟩, h5, h6, h7, h8, h9, h10⟩ := H
  exact ⟨by rw [e _ (by omega) (by omega)]; exact h1, ⟨R1, by rw [e _ (by omega) (by omega)]; exact h2, h2'⟩, ⟨R2, by rw [e _ (by omega) (by omega)]; exact h3, h3'⟩, ⟨R3, by rw [e _ (by omega) (by omega)]; exact h4, h4'⟩, by rw [e _ (by omega) (by omega)]; exact h5, by rw [e _ (by omega) (by omega)]; exact h6, by rw [e _ (by omega) (by omega)]; exact h7, by rw [e _ (by omega) (by omega)]; exact h8, fun c c0 c1 => ⟨by rw [e _ (by omega) (by omega)]; exact (h9 c c0 c1).1, by rw [e _ (by omega) (by omega)]; exact (h9 c c0 c1).2⟩, fun c c0 c1 => by rw [e _ (by omega) (by omega)]; exact h10 c c0 c1⟩
theorem tn_Rr.g (H : tn_Rr h a A B Fi T mC mP mT mc rc) : tm_gR h 3 0 a = some (a + 1) ∧ tm_gR h 3 1 a = some (a + 8) ∧ tm_gR h 3 2 a = some (a + 15) ∧ tm_gR h 3 3 a = some (a + 29) ∧ tm_gR h 3 4 a = some (a + 30) ∧ tm_gR h 3 5 a = some (a + 31) ∧ tm_gR h 3 6 a = some (a + 32) ∧ tm_gI h 3 7 a = some mc ∧ tm_gI h 3 8 a = some rc :=
  ⟨tn_gR (k := 0) H.1 rfl, tn_gR (k := 1) H.1 rfl, tn_gR (k := 2) H.1 rfl, tn_gR (k := 3) H.1 rfl, tn_gR (k := 4) H.1 rfl, tn_gR (k := 5) H.1 rfl, tn_gR (k := 6) H.1 rfl, tn_gI (k := 7) H.1 rfl, tn_gI (k := 8) H.1 rfl⟩
theorem tn_Rr.rA (H : tn_Rr h a A B Fi T mC mP mT mc rc) {c : Int} (hc : 0 ≤ c ∧ c < 6) : tm_lR h 5 (a + 1) c = some (a + 2 + c.toNat) ∧ tm_lR h 5 (a + 8) c = some (a + 9 + c.toNat) := by
  obtain ⟨h1, ⟨R1, h2, h2'⟩, ⟨R2, h3, h3'⟩, h4⟩ := H
  exact ⟨by rw [tn_lR h2 hc.1 (by omega)]; exact h2' c hc.1 hc.2, by rw [tn_lR h3 hc.1 (by omega)]; exact h3' c hc.1 hc.2⟩
theorem tn_Rr.rF (H : tn_Rr h a A B Fi T mC mP mT mc rc) {c : Int} (hc : 0 ≤ c ∧ c < 13) : tm_lR h 5 (a + 15) c = some (a + 16 + c.toNat) := by
  obtain ⟨h1, h2, h3, ⟨R3, h4, h4'⟩, h5⟩ := H
  rw [tn_lR h4 hc.1 (by omega)]; exact h4' c hc.1 hc.2
theorem tn_Rr.lA (H : tn_Rr h a A B Fi T mC mP mT mc rc) {c p : Int} (hc : 0 ≤ c ∧ c < 6) (hp : 0 ≤ p ∧ p < 40) : tm_lI h 0 (a + 2 + c.toNat) p = some (A c p.toNat) ∧ tm_lI h 0 (a + 9 + c.toNat) p = some (B c p.toNat) := by
  obtain ⟨h1, h2, h3, h4, h5, h6, h7, h8, h9, h10⟩ := H
  exact ⟨tn_lI (h9 c hc.1 hc.2).1 hp.1 (by omega), tn_lI (h9 c hc.1 hc.2).2 hp.1 (by omega)⟩
theorem tn_Rr.lF (H : tn_Rr h a A B Fi T mC mP mT mc rc) {t c : Int} (ht : 0 ≤ t ∧ t < 13) (hc : 0 ≤ c ∧ c < 6) : tm_lI h 0 (a + 16 + t.toNat) c = some (Fi t c.toNat) := by
  obtain ⟨h1, h2, h3, h4, h5, h6, h7, h8, h9, h10⟩ := H
  exact tn_lI (h10 t ht.1 ht.2) hc.1 (by omega)
theorem tn_Rr.lT (H : tn_Rr h a A B Fi T mC mP mT mc rc) {t : Int} (ht : 0 ≤ t ∧ t < 13) : tm_lI h 0 (a + 29) t = some (T t.toNat) := tn_lI H.2.2.2.2.1 ht.1 (by omega)
theorem tn_Rr.lM (H : tn_Rr h a A B Fi T mC mP mT mc rc) {m : Int} (hm : 0 ≤ m ∧ m < 78) : tm_lI h 0 (a + 30) m = some (mC m.toNat) ∧ tm_lI h 0 (a + 31) m = some (mP m.toNat) ∧ tm_lI h 0 (a + 32) m = some (mT m.toNat) :=
  ⟨tn_lI H.2.2.2.2.2.1 hm.1 (by omega), tn_lI H.2.2.2.2.2.2.1 hm.1 (by omega), tn_lI H.2.2.2.2.2.2.2.1 hm.1 (by omega)⟩
theorem tn_Rr.wA (H : tn_Rr h a A B Fi T mC mP mT mc rc) {c p : Int} (v : Int) (hc : 0 ≤ c ∧ c < 6) (hp : 0 ≤ p ∧ p < 40) : ∃ h', tm_wI h 0 (a + 2 + c.toNat) p v = some h' ∧ tn_Rr h' a (tn_u2 A c p v) B Fi T mC mP mT mc rc ∧ tn_fr a (a + 33) h h' := by
  obtain ⟨h1, ⟨R1, h2, h2'⟩, ⟨R2, h3, h3'⟩, ⟨R3, h4, h4'⟩, h5, h6, h7, h8, h9, h10⟩ := H
  obtain ⟨h', e, p, o⟩ := tn_WI v (h9 c hc.1 hc.2).1 hp.1 (show p < (40 : Nat) by omega)
  refine ⟨h', e, ⟨by rw [o _ (by omega)]; exact h1, ⟨R1, by rw [o _ (by omega)]; exact h2, h2'⟩, ⟨R2, by rw [o _ (by omega)]; exact h3, h3'⟩, ⟨R3, by rw [o _ (by omega)]; exact h4, h4'⟩, by rw [o _ (by omega)]; exact h5, by rw [o _ (by omega)]; exact h6, by rw [o _ (by omega)]; exact h7, by rw [o _ (by omega)]; exact h8, fun d d0 d1 => ?_, fun d d0 d1 => ?_⟩, fun q hq => o q (by omega)⟩
  · refine ⟨?_, by rw [o _ (by omega)]; exact (h9 d d0 d1).2⟩
    unfold tn_u2
    by_cases k : d = c
    · rw [if_pos k, k]; exact p
    · rw [if_neg k, o _ (by omega)]; exact (h9 d d0 d1).1
  · rw [o _ (by omega)]; exact h10 d d0 d1
theorem tn_Rr.wB (H : tn_Rr h a A B Fi T mC mP mT mc rc) {c p : Int} (v : Int) (hc : 0 ≤ c ∧ c < 6) (hp : 0 ≤ p ∧ p < 40) : ∃ h', tm_wI h 0 (a + 9 + c.toNat) p v = some h' ∧ tn_Rr h' a A (tn_u2 B c p v) Fi T mC mP mT mc rc ∧ tn_fr a (a + 33) h h' := by
  obtain ⟨h1, ⟨R1, h2, h2'⟩, ⟨R2, h3, h3'⟩, ⟨R3, h4, h4'⟩, h5, h6, h7, h8, h9, h10⟩ := H
  obtain ⟨h', e, p, o⟩ := tn_WI v (h9 c hc.1 hc.2).2 hp.1 (show p < (40 : Nat) by omega)
  refine ⟨h', e, ⟨by rw [o _ (by omega)]; exact h1, ⟨R1, by rw [o _ (by omega)]; exact h2, h2'⟩, ⟨R2, by rw [o _ (by omega)]; exact h3, h3'⟩, ⟨R3, by rw [o _ (by omega)]; exact h4, h4'⟩, by rw [o _ (by omega)]; exact h5, by rw [o _ (by omega)]; exact h6, by rw [o _ (by omega)]; exact h7, by rw [o _ (by omega)]; exact h8, fun d d0 d1 => ?_, fun d d0 d1 => ?_⟩, fun q hq => o q (by omega)⟩
  · refine ⟨by rw [o _ (by omega)]; exact (h9 d d0 d1).1, ?_⟩
    unfold tn_u2
    by_cases k : d = c
    · rw [if_pos k, k]; exact p
    · rw [if_neg k, o _ (by omega)]; exact (h9 d d0 d1).2
  · rw [o _ (by omega)]; exact h10 d d0 d1
theorem tn_Rr.wF (H : tn_Rr h a A B Fi T mC mP mT mc rc) {c p : Int} (v : Int) (hc : 0 ≤ c ∧ c < 13) (hp : 0 ≤ p ∧ p < 6) : ∃ h', tm_wI h 0 (a + 16 + c.toNat) p v = some h' ∧ tn_Rr h' a A B (tn_u2 Fi c p v) T mC mP mT mc rc ∧ tn_fr a (a + 33) h h' := by
  obtain ⟨h1, ⟨R1, h2, h2'⟩, ⟨R2, h3, h3'⟩, ⟨R3, h4, h4'⟩, h5, h6, h7, h8, h9, h10⟩ := H
  obtain ⟨h', e, p, o⟩ := tn_WI v (h10 c hc.1 hc.2) hp.1 (show p < (6 : Nat) by omega)
  refine ⟨h', e, ⟨by rw [o _ (by omega)]; exact h1, ⟨R1, by rw [o _ (by omega)]; exact h2, h2'⟩, ⟨R2, by rw [o _ (by omega)]; exact h3, h3'⟩, ⟨R3, by rw [o _ (by omega)]; exact h4, h4'⟩, by rw [o _ (by omega)]; exact h5, by rw [o _ (by omega)]; exact h6, by rw [o _ (by omega)]; exact h7, by rw [o _ (by omega)]; exact h8, fun d d0 d1 => ?_, fun d d0 d1 => ?_⟩, fun q hq => o q (by omega)⟩
  · exact ⟨by rw [o _ (by omega)]; exact (h9 d d0 d1).1, by rw [o _ (by omega)]; exact (h9 d d0 d1).2⟩
  · unfold tn_u2
    by_cases k : d = c
    · rw [if_pos k, k]; exact p
    · rw [if_neg k, o _ (by omega)]; exact h10 d d0 d1
theorem tn_Rr.wT (H : tn_Rr h a A B Fi T mC mP mT mc rc) {t : Int} (v : Int) (ht : 0 ≤ t ∧ t < 13) : ∃ h', tm_wI h 0 (a + 29) t v = some h' ∧ tn_Rr h' a A B Fi (tm_up T t.toNat v) mC mP mT mc rc ∧ tn_fr a (a + 33) h h' := by
  obtain ⟨h1, ⟨R1, h2, h2'⟩, ⟨R2, h3, h3'⟩, ⟨R3, h4, h4'⟩, h5, h6, h7, h8, h9, h10⟩ := H
  obtain ⟨h', e, p, o⟩ := tn_WI v h5 ht.1 (show t < (13 : Nat) by omega)
  refine ⟨h', e, ⟨by rw [o _ (by omega)]; exact h1, ⟨R1, by rw [o _ (by omega)]; exact h2, h2'⟩, ⟨R2, by rw [o _ (by omega)]; exact h3, h3'⟩, ⟨R3, by rw [o _ (by omega)]; exact h4, h4'⟩, p, by rw [o _ (by omega)]; exact h6, by rw [o _ (by omega)]; exact h7, by rw [o _ (by omega)]; exact h8, fun d d0 d1 => ?_, fun d d0 d1 => ?_⟩, fun q hq => o q (by omega)⟩
  · exact ⟨by rw [o _ (by omega)]; exact (h9 d d0 d1).1, by rw [o _ (by omega)]; exact (h9 d d0 d1).2⟩
  · rw [o _ (by omega)]; exact h10 d d0 d1
theorem tn_Rr.wC (H : tn_Rr h a A B Fi T mC mP mT mc rc) {m : Int} (v : Int) (hm : 0 ≤ m ∧ m < 78) : ∃ h', tm_wI h 0 (a + 30) m v = some h' ∧ tn_Rr h' a A B Fi T (tm_up mC m.toNat v) mP mT mc rc ∧ tn_fr a (a + 33) h h' := by
  obtain ⟨h1, ⟨R1, h2, h2'⟩, ⟨R2, h3, h3'⟩, ⟨R3, h4, h4'⟩, h5, h6, h7, h8, h9, h10⟩ := H
  obtain ⟨h', e, p, o⟩ := tn_WI v h6 hm.1 (show m < (78 : Nat) by omega)
  refine ⟨h', e, ⟨by rw [o _ (by omega)]; exact h1, ⟨R1, by rw [o _ (by omega)]; exact h2, h2'⟩, ⟨R2, by rw [o _ (by omega)]; exact h3, h3'⟩, ⟨R3, by rw [o _ (by omega)]; exact h4, h4'⟩, by rw [o _ (by omega)]; exact h5, p, by rw [o _ (by omega)]; exact h7, by rw [o _ (by omega)]; exact h8, fun d d0 d1 => ?_, fun d d0 d1 => ?_⟩, fun q hq => o q (by omega)⟩
  · exact ⟨by rw [o _ (by omega)]; exact (h9 d d0 d1).1, by rw [o _ (by omega)]; exact (h9 d d0 d1).2⟩
  · rw [o _ (by omega)]; exact h10 d d0 d1
theorem tn_Rr.wP (H : tn_Rr h a A B Fi T mC mP mT mc rc) {m : Int} (v : Int) (hm : 0 ≤ m ∧ m < 78) : ∃ h', tm_wI h 0 (a + 31) m v = some h' ∧ tn_Rr h' a A B Fi T mC (tm_up mP m.toNat v) mT mc rc ∧ tn_fr a (a + 33) h h' := by
  obtain ⟨h1, ⟨R1, h2, h2'⟩, ⟨R2, h3, h3'⟩, ⟨R3, h4, h4'⟩, h5, h6, h7, h8, h9, h10⟩ := H
  obtain ⟨h', e, p, o⟩ := tn_WI v h7 hm.1 (show m < (78 : Nat) by omega)
  refine ⟨h', e, ⟨by rw [o _ (by omega)]; exact h1, ⟨R1, by rw [o _ (by omega)]; exact h2, h2'⟩, ⟨R2, by rw [o _ (by omega)]; exact h3, h3'⟩, ⟨R3, by rw [o _ (by omega)]; exact h4, h4'⟩, by rw [o _ (by omega)]; exact h5, by rw [o _ (by omega)]; exact h6, p, by rw [o _ (by omega)]; exact h8, fun d d0 d1 => ?_, fun d d0 d1 => ?_⟩, fun q hq => o q (by omega)⟩
  · exact ⟨by rw [o _ (by omega)]; exact (h9 d d0 d1).1, by rw [o _ (by omega)]; exact (h9 d d0 d1).2⟩
  · rw [o _ (by omega)]; exact h10 d d0 d1
theorem tn_Rr.wM (H : tn_Rr h a A B Fi T mC mP mT mc rc) {m : Int} (v : Int) (hm : 0 ≤ m ∧ m < 78) : ∃ h', tm_wI h 0 (a + 32) m v = some h' ∧ tn_Rr h' a A B Fi T mC mP (tm_up mT m.toNat v) mc rc ∧ tn_fr a (a + 33) h h' := by
  obtain ⟨h1, ⟨R1, h2, h2'⟩, ⟨R2, h3, h3'⟩, ⟨R3, h4, h4'⟩, h5, h6, h7, h8, h9, h10⟩ := H
  obtain ⟨h', e, p, o⟩ := tn_WI v h8 hm.1 (show m < (78 : Nat) by omega)
  refine ⟨h', e, ⟨by rw [o _ (by omega)]; exact h1, ⟨R1, by rw [o _ (by omega)]; exact h2, h2'⟩, ⟨R2, by rw [o _ (by omega)]; exact h3, h3'⟩, ⟨R3, by rw [o _ (by omega)]; exact h4, h4'⟩, by rw [o _ (by omega)]; exact h5, by rw [o _ (by omega)]; exact h6, by rw [o _ (by omega)]; exact h7, p, fun d d0 d1 => ?_, fun d d0 d1 => ?_⟩, fun q hq => o q (by omega)⟩
  · exact ⟨by rw [o _ (by omega)]; exact (h9 d d0 d1).1, by rw [o _ (by omega)]; exact (h9 d d0 d1).2⟩
  · rw [o _ (by omega)]; exact h10 d d0 d1
theorem tn_Rr.smc (H : tn_Rr h a A B Fi T mC mP mT mc rc) (v : Int) : ∃ h', tm_sF h 3 7 a (.inl v) = some h' ∧ tn_Rr h' a A B Fi T mC mP mT v rc ∧ tn_fr a (a + 33) h h' := by
  obtain ⟨h1, ⟨R1, h2, h2'⟩, ⟨R2, h3, h3'⟩, ⟨R3, h4, h4'⟩, h5, h6, h7, h8, h9, h10⟩ := H
  obtain ⟨h', e, p, o⟩ := tn_SF (k := 7) h1 (.inl v) (by simp)
  refine ⟨h', e, ⟨p, ⟨R1, by rw [o _ (by omega)]; exact h2, h2'⟩, ⟨R2, by rw [o _ (by omega)]; exact h3, h3'⟩, ⟨R3, by rw [o _ (by omega)]; exact h4, h4'⟩, by rw [o _ (by omega)]; exact h5, by rw [o _ (by omega)]; exact h6, by rw [o _ (by omega)]; exact h7, by rw [o _ (by omega)]; exact h8, fun d d0 d1 => ?_, fun d d0 d1 => ?_⟩, fun q hq => o q (by omega)⟩
  · exact ⟨by rw [o _ (by omega)]; exact (h9 d d0 d1).1, by rw [o _ (by omega)]; exact (h9 d d0 d1).2⟩
  · rw [o _ (by omega)]; exact h10 d d0 d1
theorem tn_Rr.src (H : tn_Rr h a A B Fi T mC mP mT mc rc) (v : Int) : ∃ h', tm_sF h 3 8 a (.inl v) = some h' ∧ tn_Rr h' a A B Fi T mC mP mT mc v ∧ tn_fr a (a + 33) h h' := by
  obtain ⟨h1, ⟨R1, h2, h2'⟩, ⟨R2, h3, h3'⟩, ⟨R3, h4, h4'⟩, h5, h6, h7, h8, h9, h10⟩ := H
  obtain ⟨h', e, p, o⟩ := tn_SF (k := 8) h1 (.inl v) (by simp)
  refine ⟨h', e, ⟨p, ⟨R1, by rw [o _ (by omega)]; exact h2, h2'⟩, ⟨R2, by rw [o _ (by omega)]; exact h3, h3'⟩, ⟨R3, by rw [o _ (by omega)]; exact h4, h4'⟩, by rw [o _ (by omega)]; exact h5, by rw [o _ (by omega)]; exact h6, by rw [o _ (by omega)]; exact h7, by rw [o _ (by omega)]; exact h8, fun d d0 d1 => ?_, fun d d0 d1 => ?_⟩, fun q hq => o q (by omega)⟩
  · exact ⟨by rw [o _ (by omega)]; exact (h9 d d0 d1).1, by rw [o _ (by omega)]; exact (h9 d d0 d1).2⟩
  · rw [o _ (by omega)]; exact h10 d d0 d1
end RDR
