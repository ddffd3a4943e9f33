/-! the class loads -/
def tn_D (h : tm_H) (a : Nat) (l : Int) (x : Int → Int) (s : tn_St) (g : Nat → Int) (st en : Int) : Prop :=
  h a = some (.inl (2, [.inr (some (a + 1)), .inr (some (a + 3)), .inr (some (a + 53)), .inl st, .inl en])) ∧ tn_X h (a + 1) l x ∧ tn_Q h (a + 3) s ∧ h (a + 53) = some (.inr (0, 4, .inl g))
section LDR
variable {h : tm_H} {a : Nat} {l : Int} {x : Int → Int} {s : tn_St} {g : Nat → Int} {st en : Int}
theorem tn_D.cg {h' : tm_H} (H : tn_D h a l x s g st en) (e : tn_eq a (a + 54) h h') : tn_D h' a l x s g st en :=
  ⟨by rw [e a (by omega) (by omega)]; exact H.1, H.2.1.cg (e.sub (by omega) (by omega)), H.2.2.1.cg (e.sub (by omega) (by omega)), by rw [e _ (by omega) (by omega)]; exact H.2.2.2⟩
theorem tn_D.gg (H : tn_D h a l x s g st en) : tm_gR h 2 0 a = some (a + 1) ∧ tm_gR h 2 1 a = some (a + 3) ∧ tm_gR h 2 2 a = some (a + 53) ∧ tm_gI h 2 3 a = some st ∧ tm_gI h 2 4 a = some en :=
  ⟨tn_gR (k := 0) H.1 rfl, tn_gR (k := 1) H.1 rfl, tn_gR (k := 2) H.1 rfl, tn_gI (k := 3) H.1 rfl, tn_gI (k := 4) H.1 rfl⟩
theorem tn_D.sst (H : tn_D h a l x s g st en) (v : Int) : ∃ h', tm_sF h 2 3 a (.inl v) = some h' ∧ tn_D h' a l x s g v en ∧ tn_fr a (a + 54) h h' := by
  obtain ⟨h', e, p, o⟩ := tn_SF (k := 3) H.1 (.inl v) (by simp)
  exact ⟨h', e, ⟨p, H.2.1.cg (fun q _ _ => o q (by omega)), H.2.2.1.cg (fun q _ _ => o q (by omega)), by rw [o _ (by omega)]; exact H.2.2.2⟩, fun q hq => o q (by omega)⟩
theorem tn_D.sen (H : tn_D h a l x s g st en) (v : Int) : ∃ h', tm_sF h 2 4 a (.inl v) = some h' ∧ tn_D h' a l x s g st v ∧ tn_fr a (a + 54) h h' := by
  obtain ⟨h', e, p, o⟩ := tn_SF (k := 4) H.1 (.inl v) (by simp)
  exact ⟨h', e, ⟨p, H.2.1.cg (fun q _ _ => o q (by omega)), H.2.2.1.cg (fun q _ _ => o q (by omega)), by rw [o _ (by omega)]; exact H.2.2.2⟩, fun q hq => o q (by omega)⟩
/-- the state is another -/
theorem tn_D.setQ {h' : tm_H} {s' : tn_St} (H : tn_D h a l x s g st en) (Q : tn_Q h' (a + 3) s') (f : tn_fr (a + 3) (a + 3 + 50) h h') : tn_D h' a l x s' g st en :=
  ⟨by rw [f _ (by omega)]; exact H.1, H.2.1.cg (f.off (by omega)), Q, by rw [f _ (by omega)]; exact H.2.2.2⟩
theorem tn_D.at (H : tn_D h a l x s g st en) (i : Int) : fX6_at (a + 1) i h = some (tn_ch l x i) := tx6_at H.2.1 i
theorem tx2_isLetter (v : Int) : fX2_isLetter v h = some (tn_b (tn_isl v)) := by
  unfold fX2_isLetter
  by_cases c1 : v < 97
  · rw [if_pos c1, tn_b0 (by unfold tn_isl; omega)]
  · by_cases c2 : 122 < v
    · rw [if_neg c1, if_pos c2, tn_b0 (by unfold tn_isl; omega)]
    · rw [if_neg c1, if_neg c2, tn_b1 (by unfold tn_isl; omega)]
theorem tx2_isRun (H : tn_D h a l x s g st en) : fX2_isRun a h = some (tn_b (tn_isl (tn_ch l x st))) := by
  obtain ⟨g0, g1, g2, g3, g4⟩ := H.gg
  simp only [fX2_isRun, tn_th H.1, g0, g3, Option.bind_some, H.at, tx2_isLetter, tn_zr]
theorem tx2_L103 (H : tn_D h a l x s g st en) (h1 : 0 ≤ en ∧ en ≤ l) : ∃ h', fX2_step_L103 a h = some h' ∧ tn_D h' a l x s g st (if en = st ∧ st < l then st + 1 else en) ∧ tn_fr a (a + 54) h h' := by
  obtain ⟨g0, g1, g2, g3, g4⟩ := H.gg
  have hl := H.2.1.rg
  simp only [fX2_step_L103, g0, g3, g4, Option.bind_some, tx6_length H.2.1]
  by_cases c : en = st
  · rw [if_pos c]
    by_cases d : en < l
    · obtain ⟨h', e, D, f⟩ := H.sen (st + 1)
      refine ⟨h', ?_, by rw [if_pos (by omega)]; exact D, f⟩
      rw [if_pos d, tm_wr_id (by omega) (by omega), c, e]
      rfl
    · exact ⟨h, by rw [if_neg d], by rw [if_neg (by omega)]; exact H, tn_fr.rf⟩
  · exact ⟨h, by rw [if_neg c], by rw [if_neg (fun k => c k.1)]; exact H, tn_fr.rf⟩
theorem tx2_L59 : ∀ (m : Nat) (h : tm_H) (en : Int), tn_D h a l x s g st en → 0 ≤ en → en ≤ l → (l - en).toNat = m → ∃ h', fX2_step_L59 a h = some h' ∧ tn_D h' a l x s g st (if tn_tl2 l x en = st ∧ st < l then st + 1 else tn_tl2 l x en) ∧ tn_fr a (a + 54) h h' := by
  intro m
  induction m with
  | zero =>
    intro h en H e0 e1 hm
    obtain ⟨g0, g1, g2, g3, g4⟩ := H.gg
    obtain ⟨h', e, D, f⟩ := tx2_L103 H ⟨e0, e1⟩
    have q : tn_tl2 l x en = en := by rw [tn_tl2_eq, if_neg (fun k => by omega)]
    rw [q]
    refine ⟨h', ?_, D, f⟩
    rw [fX2_step_L59_eq, g4, Option.bind_some, g0, Option.bind_some, tx6_length H.2.1, Option.bind_some, if_neg (by omega)]
    exact e
  | succ m ih =>
    intro h en H e0 e1 hm
    obtain ⟨g0, g1, g2, g3, g4⟩ := H.gg
    have hl := H.2.1.rg
    have ch : tn_ch l x en = x en := by unfold tn_ch; rw [if_pos (by omega)]
    rw [fX2_step_L59_eq, g4, Option.bind_some, g0, Option.bind_some, tx6_length H.2.1, Option.bind_some, if_pos (by omega), Option.bind_some, Option.bind_some, H.at, Option.bind_some, tx2_isLetter, Option.bind_some, Option.bind_some, tm_wr_id (by omega) (by omega), ch]
    by_cases c : tn_isl (x en)
    · obtain ⟨h1, e2, D1, f1⟩ := H.sen (en + 1)
      obtain ⟨h', e, D, f⟩ := ih h1 (en + 1) D1 (by omega) (by omega) (by omega)
      have q : tn_tl2 l x en = tn_tl2 l x (en + 1) := by rw [tn_tl2_eq, if_pos ⟨by omega, c⟩]
      rw [tn_b1 c, if_neg (by omega), q, e2, Option.bind_some]
      exact ⟨h', e, D, f1.tr f⟩
    · obtain ⟨h', e, D, f⟩ := tx2_L103 H ⟨e0, e1⟩
      have q : tn_tl2 l x en = en := by rw [tn_tl2_eq, if_neg (fun k => c k.2)]
      rw [tn_b0 c, if_pos rfl, q]
      exact ⟨h', e, D, f⟩
theorem tx2_L8 : ∀ (m : Nat) (h : tm_H) (st : Int), tn_D h a l x s g st en → 0 ≤ st → st ≤ l → (l - st).toNat = m → ∃ h', fX2_step_L8 a h = some h' ∧ tn_D h' a l x s g (tn_ts l x st) (tn_te l x (tn_ts l x st)) ∧ tn_fr a (a + 54) h h' := by
  have fin : ∀ (h : tm_H) (st : Int), tn_D h a l x s g st en → 0 ≤ st → st ≤ l → ∃ h', fX2_step_L51 a h = some h' ∧ tn_D h' a l x s g st (tn_te l x st) ∧ tn_fr a (a + 54) h h' := by
    intro h st H s0 s1
    obtain ⟨g0, g1, g2, g3, g4⟩ := H.gg
    obtain ⟨h1, e1, D1, f1⟩ := H.sen st
    obtain ⟨h2, e2, D2, f2⟩ := tx2_L59 _ h1 st D1 s0 s1 rfl
    refine ⟨h2, ?_, D2, f1.tr f2⟩
    simp only [fX2_step_L51, g3, Option.bind_some, e1]
    exact e2
  intro m
  induction m with
  | zero =>
    intro h st H e0 e1 hm
    obtain ⟨g0, g1, g2, g3, g4⟩ := H.gg
    rw [tn_ts_eq, if_neg (fun k => by omega)]
    rw [fX2_step_L8_eq, g3, Option.bind_some, g0, Option.bind_some, tx6_length H.2.1, Option.bind_some, if_neg (by omega)]
    exact fin h st H e0 e1
  | succ m ih =>
    intro h st H e0 e1 hm
    obtain ⟨g0, g1, g2, g3, g4⟩ := H.gg
    have hl := H.2.1.rg
    have ch : tn_ch l x st = x st := by unfold tn_ch; rw [if_pos (by omega)]
    rw [tn_ts_eq, fX2_step_L8_eq, g3, Option.bind_some, g0, Option.bind_some, tx6_length H.2.1, Option.bind_some, if_pos (by omega), Option.bind_some, Option.bind_some, H.at, Option.bind_some, Option.bind_some, tm_wr_id (by omega) (by omega), ch]
    by_cases c : x st = 32
    · obtain ⟨h1, e2, D1, f1⟩ := H.sst (st + 1)
      obtain ⟨h', e, D, f⟩ := ih h1 (st + 1) D1 (by omega) (by omega) (by omega)
      rw [if_pos c, if_pos ⟨by omega, c⟩, e2, Option.bind_some]
      exact ⟨h', e, D, f1.tr f⟩
    · rw [if_neg c, if_neg (fun k => c k.2)]
      exact fin h st H e0 e1
theorem tx2_step (H : tn_D h a l x s g st en) (h1 : 0 ≤ en ∧ en ≤ l) : ∃ h', fX2_step a h = some h' ∧ tn_D h' a l x s g (tn_ts l x en) (tn_te l x (tn_ts l x en)) ∧ tn_fr a (a + 54) h h' := by
  obtain ⟨g0, g1, g2, g3, g4⟩ := H.gg
  obtain ⟨h1, e1, D1, f1⟩ := H.sst en
  obtain ⟨h2, e2, D2, f2⟩ := tx2_L8 _ h1 en D1 (by omega) (by omega) rfl
  refine ⟨h2, ?_, D2, f1.tr f2⟩
  simp only [fX2_step, tn_th H.1, g4, Option.bind_some, e1]
  exact e2
theorem tx2_pass (H : tn_D h a l x s g st en) (h1 : 0 ≤ en ∧ en ≤ l) (v : Int) : (tn_ch l x st = v → ∃ h', fX2_pass a v h = some (1, h') ∧ tn_D h' a l x s g (tn_ts l x en) (tn_te l x (tn_ts l x en)) ∧ tn_fr a (a + 54) h h') ∧ (tn_ch l x st ≠ v → fX2_pass a v h = some (0, h)) := by
  obtain ⟨g0, g1, g2, g3, g4⟩ := H.gg
  simp only [fX2_pass, tn_th H.1, g0, g3, Option.bind_some, H.at]
  constructor
  · intro c
    obtain ⟨h2, e2, D2, f2⟩ := tx2_step H h1
    exact ⟨h2, by rw [if_pos c, e2, Option.bind_some], D2, f2⟩
  · intro c
    rw [if_neg c]
theorem tx2_isWord_l {w : Nat} {n : Int} {f : Int → Int} (H : tn_D h a l x s g st en) (hn : tm_sl w = some n) (hf : ∀ i : Int, 0 ≤ i → i < n → tm_sc w i = some (f i)) (n9 : n ≤ 9) (h1 : 0 ≤ st ∧ st ≤ l) : ∀ (m : Nat) (k : Int), 0 ≤ k → (n - k).toNat = m → fX2_isWord_L20 a w h k = some (tn_b (∀ i : Int, k ≤ i → i < n → tn_ch l x (st + i) = f i)) := by
  obtain ⟨g0, g1, g2, g3, g4⟩ := H.gg
  have hl := H.2.1.rg
  intro m
  induction m with
  | zero =>
    intro k k0 hm
    rw [fX2_isWord_L20_eq, hn, Option.bind_some, if_neg (by omega), tn_b1]
    intro i i0 i1
    omega
  | succ m ih =>
    intro k k0 hm
    rw [fX2_isWord_L20_eq, hn, Option.bind_some, if_pos (by omega), g0, Option.bind_some, g3, Option.bind_some, tm_wr_id (z := st + k) (by omega) (by omega), H.at, Option.bind_some, hf k k0 (by omega), Option.bind_some, tm_wr_id (z := k + 1) (by omega) (by omega)]
    by_cases c : tn_ch l x (st + k) = f k
    · rw [if_pos c, ih (k + 1) (by omega) (by omega), tn_bc]
      refine ⟨fun y i i0 i1 => ?_, fun y i i0 i1 => y i (by omega) i1⟩
      by_cases z : i = k
      · rw [z]; exact c
      · exact y i (by omega) i1
    · rw [if_neg c, tn_b0]
      intro y
      exact c (y k (by omega) (by omega))
theorem tx2_isWord {w : Nat} {n : Int} {f : Int → Int} (H : tn_D h a l x s g st en) (hn : tm_sl w = some n) (hf : ∀ i : Int, 0 ≤ i → i < n → tm_sc w i = some (f i)) (n9 : n ≤ 9) (ps : tn_ps l x st en) : fX2_isWord a w h = some (tn_b (tn_nm l x st en n f)) := by
  obtain ⟨g0, g1, g2, g3, g4⟩ := H.gg
  have hl := H.2.1.rg
  have e := ps.en
  obtain ⟨p0, p1, p2⟩ := ps
  simp only [fX2_isWord, tn_th H.1, g3, g4, Option.bind_some, hn]
  rw [tm_wr_id (by omega) (by omega)]
  unfold tn_nm
  by_cases c : en - st = n
  · rw [if_pos c, tx2_isWord_l H hn hf n9 ⟨p0, p1⟩ _ 0 (by omega) rfl, tn_bc]
    exact ⟨fun y => ⟨c, y⟩, fun y => y.2⟩
  · rw [if_neg c, tn_b0 (fun y => c y.1)]
theorem tx2_w0 (H : tn_D h a l x s g st en) (ps : tn_ps l x st en) : fX2_isWord a 0 h = some (tn_b (tn_nm l x st en 2 tn_c0)) := tx2_isWord H rfl (fun i i0 i1 => by
  have : i = 0 ∨ i = 1 := by omega
  rcases this with k | k <;> subst k <;> rfl) (by omega) ps
theorem tx2_w1 (H : tn_D h a l x s g st en) (ps : tn_ps l x st en) : fX2_isWord a 1 h = some (tn_b (tn_nm l x st en 4 tn_c1)) := tx2_isWord H rfl (fun i i0 i1 => by
  have : i = 0 ∨ i = 1 ∨ i = 2 ∨ i = 3 := by omega
  rcases this with k | k | k | k <;> subst k <;> rfl) (by omega) ps
theorem tx2_w2 (H : tn_D h a l x s g st en) (ps : tn_ps l x st en) : fX2_isWord a 2 h = some (tn_b (tn_nm l x st en 4 tn_c2)) := tx2_isWord H rfl (fun i i0 i1 => by
  have : i = 0 ∨ i = 1 ∨ i = 2 ∨ i = 3 := by omega
  rcases this with k | k | k | k <;> subst k <;> rfl) (by omega) ps
/-- a run is a word, or can't be -/
theorem tx2_L94 {r : Int} (H : tn_D h a l x s g st en) (h1 : 0 ≤ en ∧ en ≤ l) (hr : r ≠ -99) : ∃ h', fX2_readWord_L94 a r h = some (r, h') ∧ tn_D h' a l x s g (tn_ts l x en) (tn_te l x (tn_ts l x en)) ∧ tn_fr a (a + 54) h h' := by
  obtain ⟨h2, e2, D2, f2⟩ := tx2_step H h1
  refine ⟨h2, ?_, D2, f2⟩
  simp only [fX2_readWord_L94]
  rw [if_neg hr, e2, Option.bind_some]
theorem tx2_L31 (H : tn_D h a l x s g st en) (ps : tn_ps l x st en) (hl8 : en - st ≤ 8) : ∀ (m : Nat) (k : Nat), st + k ≤ en → (en - st - k).toNat = m → fX2_readWord_L31 a (tn_spl x st k) (st + k) h = fX2_readWord_L31 a (tn_spl x st (en - st).toNat) en h := by
  obtain ⟨g0, g1, g2, g3, g4⟩ := H.gg
  have hl := H.2.1.rg
  have e := ps.en
  obtain ⟨p0, p1, p2⟩ := ps
  intro m
  induction m with
  | zero =>
    intro k hk hm
    rw [show (en - st).toNat = k by omega, show st + k = en by omega]
  | succ m ih =>
    intro k hk hm
    have ch : tn_ch l x (st + k) = x (st + k) := by unfold tn_ch; rw [if_pos (by omega)]
    rw [fX2_readWord_L31_eq, g4, Option.bind_some, if_pos (by omega), g3, Option.bind_some, g0, Option.bind_some, H.at, Option.bind_some, ch]
    simp only [fX7_spell, Option.bind_some]
    rw [tm_wr_id (z := st + k - st) (by omega) (by omega), show st + (k : Int) - st = k by omega, tm_wr_id (z := st + k + 1) (by omega) (by omega)]
    rw [← ih (k + 1) (by omega) (by omega), show st + ((k + 1 : Nat) : Int) = st + k + 1 by omega]
    rfl
theorem tx2_readWord (H : tn_D h a l x s g st en) (ps : tn_ps l x st en) (ok : tn_ok s) : (tn_rw l x s st en = -99 → ∃ h', fX2_readWord a h = some (-99, h') ∧ tn_D h' a l x s g st en ∧ tn_fr a (a + 54) h h') ∧ (tn_rw l x s st en ≠ -99 → ∃ h', fX2_readWord a h = some (tn_rw l x s st en, h') ∧ tn_D h' a l x (tn_rs x s st en) g (tn_ts l x en) (tn_te l x (tn_ts l x en)) ∧ tn_fr a (a + 54) h h') := by
  obtain ⟨g0, g1, g2, g3, g4⟩ := H.gg
  have hl := H.2.1.rg
  have e := ps.en
  have ps0 := ps
  obtain ⟨p0, p1, p2⟩ := ps
  simp only [fX2_readWord, tn_th H.1, tx2_isRun H, Option.bind_some, g3, g4]
  rw [tm_wr_id (by omega) (by omega)]
  by_cases c1 : tn_isl (tn_ch l x st)
  · rw [tn_b1 c1, if_neg (by omega)]
    by_cases c2 : en - st ≤ 8
    · have rv : tn_rw l x s st en = tn_wn s (tn_spl x st (en - st).toNat) := if_pos ⟨c1, c2⟩
      rw [if_neg (by omega), rv]
      unfold tn_rs
      have e31 := tx2_L31 H ps0 c2 _ 0 (by omega) rfl
      rw [show st + ((0 : Nat) : Int) = st by omega] at e31
      rw [show fX2_readWord_L31 a 0 st h = _ from e31, fX2_readWord_L31_eq, g4, Option.bind_some, if_neg (by omega), g1, Option.bind_some, (tx4_g H.2.2.1).1, Option.bind_some]
      obtain ⟨r, er, fr⟩ := tx7_find H.2.2.1.1 (tn_spl x st (en - st).toNat)
      have fd := tn_fd_eq fr
      rw [er, Option.bind_some]
      unfold tn_wn tn_ws
      rw [fd]
      by_cases c3 : r = -99
      · rw [if_pos c3, if_neg (show ¬ r ≠ -99 from fun k => k c3), if_neg (show ¬ r ≠ -99 from fun k => k c3), Option.bind_some, (tx4_g H.2.2.1).1, Option.bind_some]
        by_cases c4 : tn_n s < 60
        · obtain ⟨h1, e1, W1, f1⟩ := tx7_add H.2.2.1.1 (tn_spl x st (en - st).toNat) c4
          have Q1 := H.2.2.1.setW W1 f1
          have D1 := H.setQ Q1 (f1.wide (by omega) (by omega))
          have n0 : tn_n s ≠ -99 := by have := ok.1; omega
          obtain ⟨h2, e2, D2, f2⟩ := tx2_L94 D1 ⟨by omega, by omega⟩ n0
          rw [if_pos c4, if_pos c4]
          refine ⟨fun k => absurd k n0, fun _ => ⟨h2, ?_, D2, (f1.wide (by omega) (by omega)).tr f2⟩⟩
          rw [e1, Option.bind_some]
          exact e2
        · rw [if_neg c4, if_neg c4]
          refine ⟨fun _ => ⟨h, ?_, H, tn_fr.rf⟩, fun k => absurd rfl k⟩
          rw [tx7_add_no H.2.2.1.1 _ c4, Option.bind_some]
          simp only [fX2_readWord_L94]
          rfl
      · rw [if_neg c3, if_pos c3, if_pos c3]
        obtain ⟨h2, e2, D2, f2⟩ := tx2_L94 H ⟨by omega, by omega⟩ c3
        exact ⟨fun k => absurd k c3, fun _ => ⟨h2, e2, D2, f2⟩⟩
    · have rv : tn_rw l x s st en = -99 := if_neg (fun k => c2 k.2)
      rw [if_pos (by omega), rv]
      exact ⟨fun _ => ⟨h, rfl, H, tn_fr.rf⟩, fun k => absurd rfl k⟩
  · have rv : tn_rw l x s st en = -99 := if_neg (fun k => c1 k.1)
    rw [tn_b0 c1, if_pos rfl, rv]
    exact ⟨fun _ => ⟨h, rfl, H, tn_fr.rf⟩, fun k => absurd rfl k⟩
/-- what an item's reading leaves -/
def tn_po (h : tm_H) (a : Nat) (l : Int) (x : Int → Int) (b : Int) (r : tn_Ret) : Prop := match r with
  | .inl f => b = 0 ∧ ∃ s' g' en', tn_D h a l x s' g' f en'
  | .inr (s', (st', en')) => b = 1 ∧ ∃ g', tn_D h a l x s' g' st' en'
theorem tn_rw_setC {c k : Int} {W : Int → Int} : tn_rw l x (tn_setC s c k W) st en = tn_rw l x s st en := rfl
theorem tn_rs_setC {c k : Int} {W : Int → Int} : tn_rs x (tn_setC s c k W) st en = tn_setC (tn_rs x s st en) c k W := by
  unfold tn_rs tn_ws
  by_cases c1 : tn_fd s (tn_spl x st (en - st).toNat) ≠ -99
  · rw [if_pos c1, if_pos (show tn_fd (tn_setC s c k W) _ ≠ -99 from c1)]
  · rw [if_neg c1, if_neg (show ¬ tn_fd (tn_setC s c k W) _ ≠ -99 from c1)]
    by_cases c2 : tn_n s < 60
    · rw [if_pos c2, if_pos (show tn_n (tn_setC s c k W) < 60 from c2)]
      rfl
    · rw [if_neg c2, if_neg (show ¬ tn_n (tn_setC s c k W) < 60 from c2)]
theorem tx2_C108 {c i : Int} {W : Int → Int} (H : tn_D h a l x (tn_setC s c i W) g st en) (h1 : 0 ≤ en ∧ en ≤ l) : ∃ b h', fX2_readChapter_L108 a h = some (b, h') ∧ tn_po h' a l x b (if tn_ch l x st = 59 then tn_tok l x (tn_setC s c i W) en else .inl st) ∧ tn_fr a (a + 54) h h' := by
  simp only [fX2_readChapter_L108]
  obtain ⟨p1, p2⟩ := tx2_pass H h1 59
  by_cases k : tn_ch l x st = 59
  · obtain ⟨h', e, D, f⟩ := p1 k
    rw [if_pos k, e, Option.bind_some]
    exact ⟨1, h', rfl, ⟨rfl, _, D⟩, f⟩
  · rw [if_neg k, p2 k, Option.bind_some]
    exact ⟨0, h, rfl, ⟨rfl, _, _, _, H⟩, tn_fr.rf⟩
theorem tx2_C63 {c : Int} (hc : 0 ≤ c ∧ c < 6) : ∀ (k : Nat) (s : tn_St) (st en : Int) (W : Int → Int) (i : Int) (h : tm_H), tn_D h a l x (tn_setC s c i W) g st en → tn_ps l x st en → tn_ok s → (∀ j : Int, 0 ≤ j → j < i → 0 ≤ W j ∧ W j < tn_n s) → 0 ≤ i → i + k = 40 → ∃ b h', fX2_readChapter_L63 a c i h = some (b, h') ∧ tn_po h' a l x b (tn_iC2 l x c (tn_tk2 l x k s st en W i)) ∧ tn_fr a (a + 54) h h' := by
  intro k
  induction k with
  | zero =>
    intro s st en W i h H ps ok hW i0 hk
    have e := ps.en
    have p0 := ps.1
    rw [fX2_readChapter_L63_eq, if_neg (by omega)]
    obtain ⟨b, h', e1, P, f⟩ := tx2_C108 H ⟨by omega, e.2.1⟩
    refine ⟨b, h', e1, ?_, f⟩
    simp only [tn_tk2]
    by_cases r : tn_isl (tn_ch l x st)
    · rw [if_pos r]
      rw [if_neg (by unfold tn_isl at r; omega)] at P
      exact P
    · rw [if_neg r]
      exact P
  | succ k ih =>
    intro s st en W i h H ps ok hW i0 hk
    have e := ps.en
    have p0 := ps.1
    rw [fX2_readChapter_L63_eq, if_pos (by omega), tx2_isRun H, Option.bind_some]
    simp only [tn_tk2]
    by_cases r : tn_isl (tn_ch l x st)
    · rw [tn_b1 r, if_neg (by omega), if_pos r]
      have ok1 : tn_ok (tn_setC s c i W) := ok.setC ⟨i0, by omega⟩ hW
      obtain ⟨w1, w2⟩ := tx2_readWord H ps ok1
      rw [tn_rw_setC] at w1 w2
      by_cases d : tn_rw l x s st en = -99
      · obtain ⟨h', e1, D, f⟩ := w1 d
        rw [if_pos d, e1, Option.bind_some, if_pos rfl]
        exact ⟨0, h', rfl, ⟨rfl, _, _, _, D⟩, f⟩
      · obtain ⟨h1, e1, D, f1⟩ := w2 d
        rw [tn_rs_setC] at D
        obtain ⟨q1, q2, q3, q4⟩ := tn_rs_ok ok d
        rw [if_neg d, e1, Option.bind_some, if_neg d, D.gg.2.1, Option.bind_some, (tx4_g D.2.2.1).2.1, Option.bind_some]
        have szc : tn_sz (tn_setC (tn_rs x s st en) c i W) c = i := if_pos rfl
        obtain ⟨h2, e2, C2, f2⟩ := tx0_put D.2.2.1.2.1 (w := tn_rw l x s st en) hc (p := i) ⟨i0, by omega⟩ (by omega)
        have D2 : tn_D h2 a l x (tn_setC (tn_rs x s st en) c (i + 1) (fun j => if j = i then tn_rw l x s st en else W j)) g (tn_ts l x en) (tn_te l x (tn_ts l x en)) := by
          refine D.setQ (D.2.2.1.setC (C2.ext (fun d d0 d1 => ?_)) f2) (f2.wide (by omega) (by omega))
          rw [szc]
          dsimp only [tn_setC, tn_sz, tn_wd]
          by_cases z : d = c
          · simp only [if_pos z, true_and]
            intro p p0 p1
            by_cases y : p = i
            · rw [if_pos y, if_neg (by omega), if_pos y]
            · rw [if_neg y, if_pos (by omega)]
              rfl
          · simp only [if_neg z]
            exact ⟨trivial, fun _ _ _ => trivial⟩
        rw [e2, Option.bind_some, tm_wr_id (by omega) (by omega)]
        obtain ⟨b, h', e3, P, f3⟩ := ih (tn_rs x s st en) _ _ _ (i + 1) h2 D2 ps.nx q1 (fun j j0 j1 => by
          by_cases z : j = i
          · simp only [if_pos z]; exact ⟨q3, q4⟩
          · simp only [if_neg z]
            have := hW j j0 (by omega)
            omega) (by omega) (by omega)
        exact ⟨b, h', e3, P, (f1.tr (f2.wide (by omega) (by omega))).tr f3⟩
    · rw [tn_b0 r, if_pos rfl, if_neg r]
      exact tx2_C108 H ⟨by omega, e.2.1⟩
theorem tx2_readChapter (H : tn_D h a l x s g st en) (ps : tn_ps l x st en) (ok : tn_ok s) : ∃ b h', fX2_readChapter a h = some (b, h') ∧ tn_po h' a l x b (tn_iC l x s en) ∧ tn_fr a (a + 54) h h' := by
  have e := ps.en
  have p0 := ps.1
  have ps1 := ps.nx
  have e1' := ps1.en
  have p1' := ps1.1
  have ps2 := ps1.nx
  have e2' := ps2.en
  have p2' := ps2.1
  obtain ⟨h1, e1, D1, f1⟩ := tx2_step H ⟨by omega, e.2.1⟩
  have chr : -1000 ≤ tn_ch l x (tn_ts l x en) ∧ tn_ch l x (tn_ts l x en) ≤ 1000 := by
    unfold tn_ch
    split
    · rename_i k
      have := D1.2.1.ch k.1 k.2
      omega
    · omega
  unfold tn_iC
  simp only [fX2_readChapter, tn_th H.1, e1, Option.bind_some, D1.gg.1, D1.gg.2.1, D1.gg.2.2.2.1, D1.at, (tx4_g D1.2.2.1).2.1]
  rw [tm_wr_id (by omega) (by omega), tx0_has D1.2.2.1.2.1, Option.bind_some]
  by_cases c1 : 0 ≤ tn_ch l x (tn_ts l x en) - 48 ∧ tn_ch l x (tn_ts l x en) - 48 < 6
  · rw [tn_b1 c1, if_neg (by omega), if_neg (fun k => k c1)]
    obtain ⟨h2, e2, D2, f2⟩ := tx2_step D1 ⟨by omega, e1'.2.1⟩
    obtain ⟨q1, q2⟩ := tx2_pass D2 ⟨by omega, e2'.2.1⟩ 58
    rw [e2, Option.bind_some]
    by_cases c2 : tn_ch l x (tn_ts l x (tn_te l x (tn_ts l x en))) = 58
    · obtain ⟨h3, e3, D3, f3⟩ := q1 c2
      rw [if_neg (fun k => k c2), e3, Option.bind_some, if_neg (by omega)]
      dsimp only
      rw [D3.gg.2.1, Option.bind_some, (tx4_g D3.2.2.1).2.1, Option.bind_some]
      obtain ⟨h4, e4, C4, f4⟩ := tx0_empty D3.2.2.1.2.1 c1
      have D4 : tn_D h4 a l x (tn_setC s (tn_ch l x (tn_ts l x en) - 48) 0 (fun _ => 0)) g (tn_ts l x (tn_te l x (tn_ts l x (tn_te l x (tn_ts l x en))))) (tn_te l x (tn_ts l x (tn_te l x (tn_ts l x (tn_te l x (tn_ts l x en)))))) := by
        refine D3.setQ (D3.2.2.1.setC (C4.ext (fun d d0 d1 => ?_)) f4) (f4.wide (by omega) (by omega))
        dsimp only [tn_setC, tn_sz, tn_wd]
        by_cases z : d = tn_ch l x (tn_ts l x en) - 48
        · simp only [if_pos z, true_and]
          intro p p0 p1
          omega
        · simp only [if_neg z]
          exact ⟨trivial, fun _ _ _ => trivial⟩
      obtain ⟨b, h5, e5, P, f5⟩ := tx2_C63 c1 40 s _ _ (fun _ => 0) 0 h4 D4 ps2.nx ok (fun j j0 j1 => by omega) (by omega) (by omega)
      rw [e4, Option.bind_some]
      exact ⟨b, h5, e5, P, (((f1.tr f2).tr f3).tr (f4.wide (by omega) (by omega))).tr f5⟩
    · rw [if_pos c2, q2 c2, Option.bind_some, if_pos rfl]
      exact ⟨0, h2, rfl, ⟨rfl, _, _, _, D2⟩, f1.tr f2⟩
  · rw [tn_b0 c1, if_pos rfl, if_pos c1]
    exact ⟨0, h1, rfl, ⟨rfl, _, _, _, D1⟩, f1⟩
theorem tx2_T44 {k : Int} {W : Int → Int} (H : tn_D h a l x s g st en) (ps : tn_ps l x st en) (ok : tn_ok s) (hk : 0 ≤ k ∧ k ≤ 4) (hg : ∀ j : Int, 0 ≤ j → j < k → g j.toNat = W j ∧ 0 ≤ W j ∧ W j < tn_n s) : ∃ b h', fX2_readTerm_L44 a k h = some (b, h') ∧ tn_po h' a l x b (tn_iT2 l x (.inr (s, (st, (en, (W, k)))))) ∧ tn_fr a (a + 54) h h' := by
  have e := ps.en
  have p0 := ps.1
  simp only [fX2_readTerm_L44, tn_iT2]
  have bad : (k = 0 ∨ tn_ch l x st ≠ 59 ∨ 12 ≤ tn_nT s ∨ tn_lik s k W) → tn_po h a l x 0 (@ite _ (k = 0 ∨ tn_ch l x st ≠ 59 ∨ 12 ≤ tn_nT s ∨ tn_lik s k W) (Classical.propDecidable _) (.inl st) (tn_tok l x (tn_addT s k W) en)) := fun y => by
    rw [if_pos y]
    exact ⟨rfl, _, _, _, H⟩
  by_cases c1 : k = 0
  · rw [if_pos c1]
    exact ⟨0, h, rfl, bad (Or.inl c1), tn_fr.rf⟩
  · rw [if_neg c1, H.gg.1, Option.bind_some, H.gg.2.2.2.1, Option.bind_some, H.at, Option.bind_some]
    by_cases c2 : tn_ch l x st = 59
    · rw [if_pos c2, H.gg.2.1, Option.bind_some, (tx4_g H.2.2.1).2.2.1, Option.bind_some, tx5_size H.2.2.1.2.2.1, Option.bind_some]
      by_cases c3 : tn_nT s < 12
      · rw [if_pos c3]
        simp only [H.gg.2.1, H.gg.2.2.1, (tx4_g H.2.2.1).1, (tx4_g H.2.2.1).2.2.1, Option.bind_some]
        have lk := tx5_hasLike H.2.2.1.1 H.2.2.1.2.2.1 ok.w H.2.2.2 (l := k) hk.2 (fun j j0 j1 => by rw [(hg j j0 j1).1]; exact (hg j j0 j1).2)
        have lk2 : (∃ u : Int, 0 ≤ u ∧ u < tn_nT s ∧ tn_tl s u = k ∧ ∀ j : Int, 0 ≤ j → j < k → tn_bs s (tn_tw s u j) = tn_bs s (g j.toNat)) ↔ tn_lik s k W := by
          unfold tn_lik
          exact ⟨fun ⟨u, u0, u1, u2, u3⟩ => ⟨u, u0, u1, u2, fun j j0 j1 => by rw [← (hg j j0 j1).1]; exact u3 j j0 j1⟩, fun ⟨u, u0, u1, u2, u3⟩ => ⟨u, u0, u1, u2, fun j j0 j1 => by rw [(hg j j0 j1).1]; exact u3 j j0 j1⟩⟩
        rw [lk, Option.bind_some, tn_bc lk2]
        by_cases c4 : tn_lik s k W
        · rw [tn_b1 c4, if_neg (by omega)]
          exact ⟨0, h, rfl, bad (Or.inr (Or.inr (Or.inr c4))), tn_fr.rf⟩
        · rw [tn_b0 c4, if_pos rfl]
          obtain ⟨h1, e1, T1, f1⟩ := tx5_add H.2.2.1.2.2.1 (b := a + 53) (l := k) (by omega) H.2.2.2 (by omega) (by omega)
          have D1 : tn_D h1 a l x (tn_addT s k W) g st en := by
            refine H.setQ (H.2.2.1.setT (T1.ext (fun t t0 t1 => ?_)) f1) (f1.wide (by omega) (by omega))
            dsimp only [tn_addT, tn_tl, tn_tw, tn_tq, tn_nT]
            refine ⟨rfl, rfl, fun j j0 j1 => ?_⟩
            by_cases z : t = s.2.2.1.1
            · simp only [if_pos z] at j1 ⊢
              exact (hg j j0 j1).1.symm
            · simp only [if_neg z]
          obtain ⟨h2, e2, D2, f2⟩ := (tx2_pass D1 ⟨by omega, e.2.1⟩ 59).1 c2
          rw [e1, Option.bind_some, e2, Option.bind_some, if_neg (by
            rintro (y | y | y | y)
            · exact c1 y
            · exact y c2
            · omega
            · exact c4 y)]
          exact ⟨1, h2, rfl, ⟨rfl, _, D2⟩, (f1.wide (by omega) (by omega)).tr f2⟩
      · rw [if_neg c3]
        exact ⟨0, h, rfl, bad (Or.inr (Or.inr (Or.inl (by omega)))), tn_fr.rf⟩
    · rw [if_neg c2]
      exact ⟨0, h, rfl, bad (Or.inr (Or.inl c2)), tn_fr.rf⟩
theorem tx2_T6 : ∀ (k : Nat) (s : tn_St) (st en : Int) (W : Int → Int) (i : Int) (g : Nat → Int) (h : tm_H), tn_D h a l x s g st en → tn_ps l x st en → tn_ok s → (∀ j : Int, 0 ≤ j → j < i → g j.toNat = W j ∧ 0 ≤ W j ∧ W j < tn_n s) → 0 ≤ i → i + k = 4 → ∃ b h', fX2_readTerm_L6 a i h = some (b, h') ∧ tn_po h' a l x b (tn_iT2 l x (tn_tk2 l x k s st en W i)) ∧ tn_fr a (a + 54) h h' := by
  intro k
  induction k with
  | zero =>
    intro s st en W i g h H ps ok hW i0 hk
    rw [fX2_readTerm_L6_eq, if_neg (by omega)]
    obtain ⟨b, h', e1, P, f⟩ := tx2_T44 (k := i) (W := W) H ps ok (by omega) hW
    simp only [tn_tk2]
    by_cases r : tn_isl (tn_ch l x st)
    · rw [if_pos r]
      refine ⟨b, h', e1, ?_, f⟩
      simp only [tn_iT2] at P
      rw [if_pos (Or.inr (Or.inl (by unfold tn_isl at r; omega)))] at P
      exact P
    · rw [if_neg r]
      exact ⟨b, h', e1, P, f⟩
  | succ k ih =>
    intro s st en W i g h H ps ok hW i0 hk
    rw [fX2_readTerm_L6_eq, if_pos (by omega), tx2_isRun H, Option.bind_some]
    simp only [tn_tk2]
    by_cases r : tn_isl (tn_ch l x st)
    · rw [tn_b1 r, if_neg (by omega), if_pos r]
      obtain ⟨w1, w2⟩ := tx2_readWord H ps ok
      by_cases d : tn_rw l x s st en = -99
      · obtain ⟨h', e1, D, f⟩ := w1 d
        rw [if_pos d, e1, Option.bind_some, if_pos rfl]
        exact ⟨0, h', rfl, ⟨rfl, _, _, _, D⟩, f⟩
      · obtain ⟨h1, e1, D, f1⟩ := w2 d
        obtain ⟨q1, q2, q3, q4⟩ := tn_rs_ok ok d
        obtain ⟨h2, e2, p2, o2⟩ := tn_WI (i := i) (tn_rw l x s st en) D.2.2.2 i0 (by omega)
        have D2 : tn_D h2 a l x (tn_rs x s st en) (tm_up g i.toNat (tn_rw l x s st en)) (tn_ts l x en) (tn_te l x (tn_ts l x en)) :=
          ⟨by rw [o2 _ (by omega)]; exact D.1, D.2.1.cg (fun q _ _ => o2 q (by omega)), D.2.2.1.cg (fun q _ _ => o2 q (by omega)), p2⟩
        obtain ⟨b, h', e3, P, f3⟩ := ih _ _ _ (fun j => if j = i then tn_rw l x s st en else W j) (i + 1) _ h2 D2 ps.nx q1 (fun j j0 j1 => by
          rw [tm_up_app]
          by_cases z : j = i
          · simp only [if_pos z]; rw [if_pos (by omega)]; exact ⟨rfl, q3, q4⟩
          · simp only [if_neg z]; rw [if_neg (by omega)]
            have := hW j j0 (by omega)
            exact ⟨this.1, this.2.1, by omega⟩) (by omega) (by omega)
        rw [if_neg d, e1, Option.bind_some, if_neg d, D.gg.2.2.1, Option.bind_some, e2, Option.bind_some, tm_wr_id (by omega) (by omega)]
        exact ⟨b, h', e3, P, fun q hq => by rw [f3 q hq, o2 q (by omega), f1 q hq]⟩
    · rw [tn_b0 r, if_pos rfl, if_neg r]
      exact tx2_T44 H ps ok (by omega) hW
theorem tx2_readTerm (H : tn_D h a l x s g st en) (ps : tn_ps l x st en) (ok : tn_ok s) : ∃ b h', fX2_readTerm a h = some (b, h') ∧ tn_po h' a l x b (tn_iT l x s en) ∧ tn_fr a (a + 54) h h' := by
  have e := ps.en
  have p0 := ps.1
  obtain ⟨h1, e1, D1, f1⟩ := tx2_step H ⟨by omega, e.2.1⟩
  obtain ⟨b, h', e3, P, f3⟩ := tx2_T6 4 s _ _ (fun _ => 0) 0 g h1 D1 ps.nx ok (fun j j0 j1 => by omega) (by omega) (by omega)
  refine ⟨b, h', ?_, P, f1.tr f3⟩
  simp only [fX2_readTerm, tn_th H.1, e1, Option.bind_some]
  exact e3
theorem tx2_readForm (H : tn_D h a l x s g st en) (ps : tn_ps l x st en) (ok : tn_ok s) : ∃ b h', fX2_readForm a h = some (b, h') ∧ tn_po h' a l x b (tn_iF l x s en) ∧ tn_fr a (a + 54) h h' := by
  have e := ps.en
  have p0 := ps.1
  have ps1 := ps.nx
  have e1' := ps1.en
  have ps2 := ps1.nx
  have e2' := ps2.en
  have ps3 := ps2.nx
  have e3' := ps3.en
  have ps4 := ps3.nx
  have e4' := ps4.en
  have z1 := ps1.1
  have z2 := ps2.1
  have z3 := ps3.1
  have z4 := ps4.1
  obtain ⟨h1, e1, D1, f1⟩ := tx2_step H ⟨by omega, e.2.1⟩
  unfold tn_iF tn_iF1
  simp only [fX2_readForm, tn_th H.1, e1, Option.bind_some]
  obtain ⟨w1, w2⟩ := tx2_readWord D1 ps1 ok
  by_cases c1 : tn_rw l x s (tn_ts l x en) (tn_te l x (tn_ts l x en)) = -99
  · obtain ⟨h2, e2, D2, f2⟩ := w1 c1
    rw [if_pos c1, e2, Option.bind_some, if_pos rfl]
    exact ⟨0, h2, rfl, ⟨rfl, _, _, _, D2⟩, f1.tr f2⟩
  · obtain ⟨h2, e2, D2, f2⟩ := w2 c1
    obtain ⟨o1, o2, o3, o4⟩ := tn_rs_ok ok c1
    obtain ⟨q1, q2⟩ := tx2_pass D2 ⟨by omega, e2'.2.1⟩ 61
    rw [if_neg c1, e2, Option.bind_some, if_neg c1]
    by_cases c2 : tn_ch l x (tn_ts l x (tn_te l x (tn_ts l x en))) = 61
    · obtain ⟨h3, e3, D3, f3⟩ := q1 c2
      rw [if_neg (fun k => k c2), e3, Option.bind_some, if_neg (by omega)]
      unfold tn_iF2
      obtain ⟨w3, w4⟩ := tx2_readWord D3 ps3 o1
      by_cases c3 : tn_rw l x (tn_rs x s (tn_ts l x en) (tn_te l x (tn_ts l x en))) (tn_ts l x (tn_te l x (tn_ts l x (tn_te l x (tn_ts l x en))))) (tn_te l x (tn_ts l x (tn_te l x (tn_ts l x (tn_te l x (tn_ts l x en)))))) = -99
      · obtain ⟨h4, e4, D4, f4⟩ := w3 c3
        rw [if_pos c3, e4, Option.bind_some, if_pos rfl]
        exact ⟨0, h4, rfl, ⟨rfl, _, _, _, D4⟩, ((f1.tr f2).tr f3).tr f4⟩
      · obtain ⟨h4, e4, D4, f4⟩ := w4 c3
        obtain ⟨o5, o6, o7, o8⟩ := tn_rs_ok o1 c3
        rw [if_neg c3, e4, Option.bind_some, if_neg c3, D4.gg.1, Option.bind_some, D4.gg.2.2.2.1, Option.bind_some, D4.at, Option.bind_some]
        generalize tn_rs x (tn_rs x s (tn_ts l x en) (tn_te l x (tn_ts l x en))) (tn_ts l x (tn_te l x (tn_ts l x (tn_te l x (tn_ts l x en))))) (tn_te l x (tn_ts l x (tn_te l x (tn_ts l x (tn_te l x (tn_ts l x en)))))) = s2 at *
        generalize tn_rw l x (tn_rs x s (tn_ts l x en) (tn_te l x (tn_ts l x en))) (tn_ts l x (tn_te l x (tn_ts l x (tn_te l x (tn_ts l x en))))) (tn_te l x (tn_ts l x (tn_te l x (tn_ts l x (tn_te l x (tn_ts l x en)))))) = v at *
        generalize tn_rw l x s (tn_ts l x en) (tn_te l x (tn_ts l x en)) = u at *
        generalize tn_ts l x (tn_te l x (tn_ts l x (tn_te l x (tn_ts l x (tn_te l x (tn_ts l x en)))))) = st4 at *
        by_cases c4 : tn_ch l x st4 = 59
        · obtain ⟨h5, e5, Q5, f5⟩ := tx4_may D4.2.2.1 o5 (w := u) (b := tn_bs s2 v) ⟨o3, by omega⟩ (o5.b ⟨o7, o8⟩)
          have D5 := D4.setQ Q5 f5
          rw [if_pos c4, if_neg (fun k => k c4), D4.gg.2.1, Option.bind_some, (tx4_g D4.2.2.1).1, Option.bind_some, tx7_base D4.2.2.1.1 ⟨o7, o8⟩, Option.bind_some, Option.bind_some, e5, Option.bind_some]
          by_cases c5 : tn_may s2 u (tn_bs s2 v)
          · obtain ⟨h6, e6, W6, f6⟩ := tx7_putBase D5.2.2.1.1 (w := u) (b := tn_bs s2 v) ⟨o3, by omega⟩ (o5.b ⟨o7, o8⟩)
            have D6 : tn_D h6 a l x (tn_setB s2 u (tn_bs s2 v)) g st4 (tn_te l x st4) := D5.setQ (Q5.setW W6 f6) (f6.wide (by omega) (by omega))
            obtain ⟨h7, e7, D7, f7⟩ := (tx2_pass D6 ⟨by omega, e4'.2.1⟩ 59).1 c4
            rw [tn_b1 c5, if_neg (by omega), if_pos c5, D5.gg.2.1, Option.bind_some, (tx4_g Q5).1, Option.bind_some, e6, Option.bind_some, e7, Option.bind_some]
            exact ⟨1, h7, rfl, ⟨rfl, _, D7⟩, (((((f1.tr f2).tr f3).tr f4).tr (f5.wide (by omega) (by omega))).tr (f6.wide (by omega) (by omega))).tr f7⟩
          · rw [tn_b0 c5, if_pos rfl, if_neg c5]
            exact ⟨0, h5, rfl, ⟨rfl, _, _, _, D5⟩, (((f1.tr f2).tr f3).tr f4).tr (f5.wide (by omega) (by omega))⟩
        · rw [if_neg c4, if_pos c4]
          exact ⟨0, h4, rfl, ⟨rfl, _, _, _, D4⟩, ((f1.tr f2).tr f3).tr f4⟩
    · rw [if_pos c2, q2 c2, Option.bind_some, if_pos rfl]
      exact ⟨0, h2, rfl, ⟨rfl, _, _, _, D2⟩, f1.tr f2⟩
/-- what loading leaves -/
def tn_pl (h : tm_H) (a : Nat) (l : Int) (x : Int → Int) (v : Int) (r : Int ⊕ (Int × tn_St)) : Prop := match r with
  | .inl f => v = -1000 - f ∧ ∃ s' g' st' en', tn_D h a l x s' g' st' en'
  | .inr (i, s') => v = i ∧ ∃ g' st' en', tn_D h a l x s' g' st' en'
theorem tx2_L19 {b : Nat} : ∀ (m : Nat) (s : tn_St) (g : Nat → Int) (st en i : Int) (h : tm_H), tn_D h a l x s g st en → tn_ps l x st en → tn_ok s → tn_nT s ≤ 12 → 0 ≤ i → i ≤ st → l - st < m → ∃ v h', fX2_read_L19 a b i h = some (v, h') ∧ tn_pl h' a l x v (tn_ld l x m s st en i) ∧ tn_fr a (a + 54) h h' := by
  intro m
  induction m with
  | zero => intro s g st en i h H ps ok hn i0 i1 hm; have := ps.2.1; omega
  | succ m ih =>
    intro s g st en i h H ps ok hn i0 i1 hm
    have hl := H.2.1.rg
    have ps1 := ps.2.1
    rw [fX2_read_L19_eq, if_neg (by omega), H.gg.2.2.2.1, Option.bind_some, H.gg.1, Option.bind_some, tx6_length H.2.1, Option.bind_some]
    simp only [tn_ld]
    by_cases c : st < l
    · rw [if_pos c, if_pos c, tx2_w0 H ps, Option.bind_some]
      have go := tn_it_go (x := x) (st := st) (en := en) ok hn ps c
      have fin : ∀ (b' : Int) (h1 : tm_H), tn_po h1 a l x b' (tn_it l x s st en) → tn_fr a (a + 54) h h1 → ∃ v h', fX2_read_L98 a b i b' h1 = some (v, h') ∧ tn_pl h' a l x v (match tn_it l x s st en with
        | .inl f => .inl f
        | .inr (s', (st', en')) => tn_ld l x m s' st' en' (i + 1)) ∧ tn_fr a (a + 54) h h' := by
        intro b' h1 P f1
        revert go P
        generalize tn_it l x s st en = r
        cases r with
        | inl f =>
          rintro ⟨go1, go2⟩ ⟨rfl, s', g', en', D⟩
          refine ⟨-1000 - f, h1, ?_, ⟨rfl, _, _, _, _, D⟩, f1⟩
          rw [fX2_read_L98_eq, if_pos rfl]
          simp only [fX2_read_L111, D.gg.2.2.2.1, Option.bind_some]
          rw [tm_wr_id (by omega) (by omega)]
        | inr y =>
          obtain ⟨s', st', en'⟩ := y
          rintro ⟨go1, go2, go3, go4⟩ ⟨rfl, g', D⟩
          obtain ⟨v, h', e2, P2, f2⟩ := ih s' g' st' en' (i + 1) h1 D go4 go1 go2 (by omega) (by omega) (by omega)
          refine ⟨v, h', ?_, P2, f1.tr f2⟩
          rw [fX2_read_L98_eq, if_neg (by omega), tm_wr_id (by omega) (by omega)]
          exact e2
      unfold tn_it at fin
      by_cases n0 : tn_nm l x st en 2 tn_c0
      · rw [tn_b1 n0, if_neg (by omega)]
        unfold tn_it
        simp only [if_pos n0] at fin ⊢
        obtain ⟨b', h1, e1, P, f1⟩ := tx2_readChapter H ps ok
        rw [e1, Option.bind_some]
        exact fin b' h1 P f1
      · rw [tn_b0 n0, if_pos rfl, tx2_w1 H ps, Option.bind_some]
        by_cases n1 : tn_nm l x st en 4 tn_c1
        · rw [tn_b1 n1, if_neg (by omega)]
          unfold tn_it
          simp only [if_neg n0, if_pos n1] at fin ⊢
          obtain ⟨b', h1, e1, P, f1⟩ := tx2_readTerm H ps ok
          rw [e1, Option.bind_some]
          exact fin b' h1 P f1
        · rw [tn_b0 n1, if_pos rfl, tx2_w2 H ps, Option.bind_some]
          by_cases n2 : tn_nm l x st en 4 tn_c2
          · rw [tn_b1 n2, if_neg (by omega)]
            unfold tn_it
            simp only [if_neg n0, if_neg n1, if_pos n2] at fin ⊢
            obtain ⟨b', h1, e1, P, f1⟩ := tx2_readForm H ps ok
            rw [e1, Option.bind_some]
            obtain ⟨v, h', e2, P2, f2⟩ := fin b' h1 P f1
            refine ⟨v, h', ?_, P2, f2⟩
            by_cases b0 : b' = 0
            · rw [if_pos b0, fX2_read_L96_eq, fX2_read_L97_eq]
              rw [b0] at e2
              exact e2
            · rw [if_neg b0, fX2_read_L97_eq]
              have b1 : b' = 1 := by
                revert P
                generalize tn_iF l x s en = r
                cases r with
                | inl f => rintro ⟨q, _⟩; exact absurd q b0
                | inr y => rintro ⟨q, _⟩; exact q
              rw [b1] at e2
              exact e2
          · rw [tn_b0 n2, if_pos rfl]
            unfold tn_it
            simp only [if_neg n0, if_neg n1, if_neg n2] at fin ⊢
            rw [fX2_read_L96_eq, fX2_read_L97_eq]
            exact fin 0 h ⟨rfl, _, _, _, H⟩ tn_fr.rf
    · rw [if_neg c, if_neg c]
      exact ⟨i, h, rfl, ⟨rfl, _, _, _, H⟩, tn_fr.rf⟩
theorem tx2_read {b : Nat} {s0 : tn_St} (H : tn_D h a l x s0 g st en) (Q : tn_Q h b s) (ok : tn_ok s) (hn : tn_nT s ≤ 12) (hd : b + 50 ≤ a ∨ a + 54 ≤ b) : ∃ v h', fX2_read a b h = some (v, h') ∧ tn_pl h' a l x v (tn_ld l x 200 s (tn_ts l x 0) (tn_te l x (tn_ts l x 0)) 0) ∧ tn_fr a (a + 54) h h' := by
  have hl := H.2.1.rg
  obtain ⟨h1, e1, Q1, f1⟩ := tx4_copyFrom H.2.2.1 Q (by omega)
  have D1 := H.setQ Q1 f1
  obtain ⟨h2, e2, D2, f2⟩ := D1.sen 0
  obtain ⟨h3, e3, D3, f3⟩ := tx2_step D2 ⟨by omega, hl.1⟩
  have q := tn_ts_rg (l := l) (x := x) (e := 0) hl.1
  obtain ⟨v, h4, e4, P, f4⟩ := tx2_L19 (b := b) 200 s g _ _ 0 h3 D3 ⟨q.1, q.2, rfl⟩ ok hn (by omega) q.1 (by omega)
  refine ⟨v, h4, ?_, P, (((f1.wide (by omega) (by omega)).tr f2).tr f3).tr f4⟩
  simp only [fX2_read, tn_th H.1, H.gg.2.1, Option.bind_some, e1, e2, e3]
  exact e4
theorem tx2_init {v0 v1 v2 v3 v4 : tm_Fv} (e : h a = some (.inl (2, [v0, v1, v2, v3, v4]))) : ∃ h', fX2_init a h (a + 1) = some (h', a + 54) ∧ tn_D h' a 0 (fun _ => 0) tn_s0 (fun _ => 0) 0 0 ∧ tn_fr a (a + 54) h h' := by
  obtain ⟨h1, e1, p1, o1⟩ := tn_NW h (a + 1) (.inl (6, [.inr none, .inl 0]))
  obtain ⟨h2, e2, X2, f2⟩ := tx6_init p1
  obtain ⟨h3, e3, p3, o3⟩ := tn_SF (k := 0) ((f2 a (by omega)).trans ((o1 a (by omega)).trans e)) (.inr (some (a + 1))) (by simp)
  obtain ⟨h4, e4, p4, o4⟩ := tn_NW h3 (a + 3) (.inl (4, [.inr none, .inr none, .inr none, .inr none, .inr none]))
  obtain ⟨h5, e5, Q5, f5⟩ := tx4_init p4
  obtain ⟨h6, e6, p6, o6⟩ := tn_SF (k := 1) ((f5 a (by omega)).trans ((o4 a (by omega)).trans p3)) (.inr (some (a + 3))) (by simp)
  obtain ⟨h7, e7, p7, o7⟩ := tn_NW h6 (a + 53) (.inr (0, 4, .inl (fun _ => 0)))
  obtain ⟨h8, e8, p8, o8⟩ := tn_SF (k := 2) ((o7 a (by omega)).trans p6) (.inr (some (a + 53))) (by simp)
  obtain ⟨h9, e9, p9, o9⟩ := tn_SF (k := 3) p8 (.inl 0) (by simp)
  obtain ⟨h10, e10, p10, o10⟩ := tn_SF (k := 4) p9 (.inl 0) (by simp)
  have up : ∀ q, q ≠ a → q < a + 53 → h10 q = h5 q := fun q q0 q1 => by rw [o10 q q0, o9 q q0, o8 q q0, o7 q (by omega), o6 q q0]
  refine ⟨h10, ?_, ⟨p10, X2.cg (fun q q0 q1 => ?_), Q5.cg (fun q q0 q1 => up q (by omega) (by omega)), ?_⟩, fun q hq => ?_⟩
  · simp only [fX2_init, tn_th e, e1, Option.bind_some, e2, e3, e4, e5, e6, e7, e8, e9, e10]
  · rw [up q (by omega) (by omega), f5 q (by omega), o4 q (by omega), o3 q (by omega)]
  · rw [o10 _ (by omega), o9 _ (by omega), o8 _ (by omega)]; exact p7
  · rw [o10 q (by omega), o9 q (by omega), o8 q (by omega), o7 q (by omega), o6 q (by omega), f5 q (by omega), o4 q (by omega), o3 q (by omega), f2 q (by omega), o1 q (by omega)]
/-- the history begins empty -/
theorem tx1_one {R : Nat → Option Nat} {k b : Nat} {z : Int} (hb : b = a + 2 + 50 * k) (h1 : h a = some (.inl (1, [.inr (some (a + 1)), .inl z]))) (h2 : h (a + 1) = some (.inr (4, 5, .inr (.inr R)))) (hk : k < 5) : ∃ hA hB hC, tm_nw h b (.inl (4, [.inr none, .inr none, .inr none, .inr none, .inr none])) = some hA ∧ fX4_init b hA (b + 1) = some (hB, b + 50) ∧ tm_wR hB 4 (a + 1) (k : Int) 4 b = some hC ∧ tm_gR h 1 0 a = some (a + 1) ∧ hC (a + 1) = some (.inr (4, 5, .inr (.inr (tm_up R k (some b))))) ∧ tn_Q hC b tn_s0 ∧ ∀ q, q ≠ a + 1 → q < b ∨ b + 50 ≤ q → hC q = h q := by
  obtain ⟨hA, eA, pA, oA⟩ := tn_NW h b (.inl (4, [.inr none, .inr none, .inr none, .inr none, .inr none]))
  obtain ⟨hB, eB, QB, fB⟩ := tx4_init pA
  obtain ⟨hC, eC, pC, oC⟩ := tn_WR (c := 4) (b := b) (i := (k : Int)) ((fB (a + 1) (by omega)).trans ((oA (a + 1) (by omega)).trans h2)) (by omega) (by omega) (by simp [tm_kd, tx4_ob QB])
  exact ⟨hA, hB, hC, eA, eB, eC, tn_gR (k := 0) h1 rfl, pC, QB.cg (fun q q0 q1 => oC q (by omega)), fun q q0 q1 => by rw [oC q q0, fB q (by omega), oA q (by omega)]⟩
theorem tx1_init {v0 v1 : tm_Fv} (e : h a = some (.inl (1, [v0, v1]))) : ∃ h', fX1_init a h (a + 1) = some (h', a + 252) ∧ tn_Y h' a 0 (fun _ => tn_s0) ∧ tn_fr a (a + 252) h h' := by
  obtain ⟨h1, e1, p1, o1⟩ := tn_NW h (a + 1) (.inr (4, 5, .inr (.inr (fun _ => none))))
  obtain ⟨h2, e2, p2, o2⟩ := tn_SF (k := 0) ((o1 a (by omega)).trans e) (.inr (some (a + 1))) (by simp)
  obtain ⟨h3, e3, p3, o3⟩ := tn_SF (k := 1) p2 (.inl 0) (by simp)
  have p3 : h3 a = some (.inl (1, [.inr (some (a + 1)), .inl 0])) := p3
  have q3 : h3 (a + 1) = _ := (o3 _ (by omega)).trans ((o2 _ (by omega)).trans p1)
  obtain ⟨a1, b1, g1, A1, B1, C1, G1, P1, Q1, O1⟩ := tx1_one (k := 0) (b := a + 1 + 1) (by omega) p3 q3 (by omega)
  have k1 : g1 a = _ := (O1 a (by omega) (by omega)).trans p3
  obtain ⟨a2, b2, g2, A2, B2, C2, G2, P2, Q2, O2⟩ := tx1_one (k := 1) (b := a + 1 + 1 + 50) (by omega) k1 P1 (by omega)
  have k2 : g2 a = _ := (O2 a (by omega) (by omega)).trans k1
  obtain ⟨a3, b3, g3, A3, B3, C3, G3, P3, Q3, O3⟩ := tx1_one (k := 2) (b := a + 1 + 1 + 50 + 50) (by omega) k2 P2 (by omega)
  have k3 : g3 a = _ := (O3 a (by omega) (by omega)).trans k2
  obtain ⟨a4, b4, g4, A4, B4, C4, G4, P4, Q4, O4⟩ := tx1_one (k := 3) (b := a + 1 + 1 + 50 + 50 + 50) (by omega) k3 P3 (by omega)
  have k4 : g4 a = _ := (O4 a (by omega) (by omega)).trans k3
  obtain ⟨a5, b5, g5, A5, B5, C5, G5, P5, Q5, O5⟩ := tx1_one (k := 4) (b := a + 1 + 1 + 50 + 50 + 50 + 50) (by omega) k4 P4 (by omega)
  have k5 : g5 a = _ := (O5 a (by omega) (by omega)).trans k4
  have Q1' : tn_Q g5 (a + 2 + 50 * 0) tn_s0 := Q1.cg (fun q q0 q1 => by rw [O5 q (by omega) (by omega), O4 q (by omega) (by omega), O3 q (by omega) (by omega), O2 q (by omega) (by omega)])
  have Q2' : tn_Q g5 (a + 2 + 50 * 1) tn_s0 := Q2.cg (fun q q0 q1 => by rw [O5 q (by omega) (by omega), O4 q (by omega) (by omega), O3 q (by omega) (by omega)])
  have Q3' : tn_Q g5 (a + 2 + 50 * 2) tn_s0 := Q3.cg (fun q q0 q1 => by rw [O5 q (by omega) (by omega), O4 q (by omega) (by omega)])
  have Q4' : tn_Q g5 (a + 2 + 50 * 3) tn_s0 := Q4.cg (fun q q0 q1 => by rw [O5 q (by omega) (by omega)])
  refine ⟨g5, ?_, ⟨_, fun i => a + 2 + 50 * i.toNat, fun _ => tn_s0, k5, P5, fun i i0 i1 => ?_, fun i j i0 i1 j0 j1 ee => by dsimp only at ee; omega, by omega, by omega⟩, fun q hq => ?_⟩
  · have B1 : fX4_init (a + 1 + 1) a1 (a + 1 + 2) = some (b1, a + 1 + 1 + 50) := B1
    have C1 : tm_wR b1 4 (a + 1) 0 4 (a + 1 + 1) = some g1 := C1
    have C2 : tm_wR b2 4 (a + 1) 1 4 (a + 1 + 1 + 50) = some g2 := C2
    have C3 : tm_wR b3 4 (a + 1) 2 4 (a + 1 + 1 + 50 + 50) = some g3 := C3
    have C4 : tm_wR b4 4 (a + 1) 3 4 (a + 1 + 1 + 50 + 50 + 50) = some g4 := C4
    have C5 : tm_wR b5 4 (a + 1) 4 4 (a + 1 + 1 + 50 + 50 + 50 + 50) = some g5 := C5
    simp only [fX1_init, tn_th e, e1, Option.bind_some, e2, e3, G1, A1, B1, C1, G2, A2, B2, C2, G3, A3, B3, C3, G4, A4, B4, C4, G5, A5, B5, C5]
  · have ci : i = 0 ∨ i = 1 ∨ i = 2 ∨ i = 3 ∨ i = 4 := by omega
    rcases ci with c | c | c | c | c <;> subst c
    · exact ⟨rfl, ⟨0, by omega, rfl⟩, Q1', fun _ => rfl⟩
    · exact ⟨rfl, ⟨1, by omega, rfl⟩, Q2', fun _ => rfl⟩
    · exact ⟨rfl, ⟨2, by omega, rfl⟩, Q3', fun _ => rfl⟩
    · exact ⟨rfl, ⟨3, by omega, rfl⟩, Q4', fun _ => rfl⟩
    · exact ⟨rfl, ⟨4, by omega, rfl⟩, Q5, fun _ => rfl⟩
  · rw [O5 q (by omega) (by omega), O4 q (by omega) (by omega), O3 q (by omega) (by omega), O2 q (by omega) (by omega), O1 q (by omega) (by omega), o3 q (by omega), o2 q (by omega), o1 q (by omega)]
end LDR
