/-! THE LAW'S OWN ROW: the reference does not look at it -/
def o8 (h : HD) (w : Int64) : HD := sJ h (8, 0, 1) 0 w
def oh (w : Int64) (x : Option HD) : Option HD := x.map (fun h => o8 h w)
def om {τ : Type} (w : Int64) (x : Option (τ × HD)) : Option (τ × HD) := x.map (fun r => (r.1, o8 r.2 w))
theorem oh_bind {τ : Type} (w : Int64) (x : Option HD) (f : HD → Option τ) : (oh w x).bind f = x.bind (fun q => f (o8 q w)) := by cases x <;> rfl
theorem om_bind {τ σ : Type} (w : Int64) (x : Option (σ × HD)) (f : σ × HD → Option τ) : (om w x).bind f = x.bind (fun q => f (q.1, o8 q.2 w)) := by cases x <;> rfl
theorem bind_oh {σ : Type} (w : Int64) (x : Option σ) (f : σ → Option HD) : oh w (x.bind f) = x.bind (fun q => oh w (f q)) := by cases x <;> rfl
theorem bind_om {τ σ : Type} (w : Int64) (x : Option σ) (f : σ → Option (τ × HD)) : om w (x.bind f) = x.bind (fun q => om w (f q)) := by cases x <;> rfl
theorem oh_some (w : Int64) (h : HD) : oh w (some h) = some (o8 h w) := Eq.trans (b := some (o8 h w)) rfl rfl
theorem om_some {τ : Type} (w : Int64) (r : τ × HD) : om w (some r) = some (r.1, o8 r.2 w) := Eq.trans (b := some (r.1, o8 r.2 w)) rfl rfl
theorem oh_none (w : Int64) : oh w none = none := rfl
theorem om_none {τ : Type} (w : Int64) : om w (none : Option (τ × HD)) = none := rfl
theorem oh_ite (w : Int64) {c : Prop} {i : Decidable c} (a b : Option HD) : oh w (@ite _ c i a b) = @ite _ c i (oh w a) (oh w b) := by by_cases q : c <;> simp only [q, if_true, if_false]
theorem om_ite {τ : Type} (w : Int64) {c : Prop} {i : Decidable c} (a b : Option (τ × HD)) : om w (@ite _ c i a b) = @ite _ c i (om w a) (om w b) := by by_cases q : c <;> simp only [q, if_true, if_false]
theorem gI_o8 (h : HD) (w : Int64) (r : Rf) (k : Nat) : gI (o8 h w) r k = gI h r k := by
  unfold o8
  rw [gI_sJ]
theorem gJ_o8 (h : HD) (w : Int64) (i j k : Nat) : gJ (o8 h w) (7, i, j) k = gJ h (7, i, j) k := by
  unfold o8
  rw [gJ_sJ, if_neg (fun e => absurd (show (7 : Nat) = 8 from congrArg (fun x : Rf => x.1) e.1) (by decide))]
theorem sI_o8 (h : HD) (w : Int64) (r : Rf) (k : Nat) (v : Int32) : sI (o8 h w) r k v = o8 (sI h r k v) w := Eq.trans (b := o8 (sI h r k v) w) rfl rfl
theorem sJ_o8 (h : HD) (w : Int64) (i j k : Nat) (v : Int64) : sJ (o8 h w) (7, i, j) k v = o8 (sJ h (7, i, j) k v) w := by
  refine Prod.ext rfl (Prod.ext ?_ rfl)
  funext q n
  show (if q = (7, i, j) ∧ n = k then v else if q = (8, 0, 1) ∧ n = 0 then w else h.2.1 q n) = (if q = (8, 0, 1) ∧ n = 0 then w else if q = (7, i, j) ∧ n = k then v else h.2.1 q n)
  by_cases a : q = (7, i, j) ∧ n = k
  · rw [if_pos a, if_pos a, if_neg (fun b => by have := a.1.symm.trans b.1; exact absurd (show (7 : Nat) = 8 from congrArg (fun x : Rf => x.1) this) (by decide))]
  · rw [if_neg a, if_neg a]
theorem lt_o8 {τ : Type} (x : HD) (w : Int64) (f : HD → τ) : lt (o8 x w) f = lt x (fun y => f (o8 y w)) := Eq.trans (b := f (o8 x w)) rfl rfl
theorem oh_lt {σ : Type} (w : Int64) (x : σ) (f : σ → Option HD) : oh w (lt x f) = lt x (fun y => oh w (f y)) := Eq.trans (b := oh w (f x)) rfl rfl
theorem om_lt {τ σ : Type} (w : Int64) (x : σ) (f : σ → Option (τ × HD)) : om w (lt x f) = lt x (fun y => om w (f y)) := Eq.trans (b := om w (f x)) rfl rfl
theorem bcg {σ τ : Type} {x : Option σ} {f g : σ → Option τ} (h : ∀ q, f q = g q) : x.bind f = x.bind g := by rw [funext h]
theorem lcg {σ τ : Type} {x : σ} {f g : σ → τ} (h : ∀ q, f q = g q) : lt x f = lt x g := h x
theorem icg {τ : Type} {c : Prop} {i1 i2 : Decidable c} {a b a2 b2 : τ} (h1 : c → a = a2) (h2 : ¬ c → b = b2) : @ite _ c i1 a b = @ite _ c i2 a2 b2 := by
  by_cases q : c
  · rw [if_pos q, if_pos q]; exact h1 q
  · rw [if_neg q, if_neg q]; exact h2 q
set_option maxHeartbeats 100000 in
theorem o_X9_isIn (w : Int64) (p1 : Int64) (p2 : Int64) (p3 : Int64) (h : HD) : jX9_isIn p1 p2 p3 (o8 h w) = jX9_isIn p1 p2 p3 h := by
  unfold jX9_isIn
  repeat' (first | with_reducible rfl |  intro _ | with_reducible apply lcg | with_reducible apply bcg | with_reducible apply icg | simp only [oh_bind, om_bind, bind_oh, bind_om, oh_some, om_some, oh_none, om_none, oh_ite, om_ite, gI_o8, gJ_o8, sI_o8, sJ_o8, lt_o8, oh_lt, om_lt])
set_option maxHeartbeats 100000 in
theorem o_X9_truth (w : Int64) (p1 : Bool) (h : HD) : jX9_truth p1 (o8 h w) = jX9_truth p1 h := by
  unfold jX9_truth
  repeat' (first | with_reducible rfl |  intro _ | with_reducible apply lcg | with_reducible apply bcg | with_reducible apply icg | simp only [oh_bind, om_bind, bind_oh, bind_om, oh_some, om_some, oh_none, om_none, oh_ite, om_ite, gI_o8, gJ_o8, sI_o8, sJ_o8, lt_o8, oh_lt, om_lt])
set_option maxHeartbeats 100000 in
theorem o_X9_goes (w : Int64) (p1 : Bool) (h : HD) : jX9_goes p1 (o8 h w) = om w (jX9_goes p1 h) := by
  unfold jX9_goes
  repeat' (first | with_reducible rfl |  intro _ | with_reducible apply lcg | with_reducible apply bcg | with_reducible apply icg | simp only [oh_bind, om_bind, bind_oh, bind_om, oh_some, om_some, oh_none, om_none, oh_ite, om_ite, gI_o8, gJ_o8, sI_o8, sJ_o8, lt_o8, oh_lt, om_lt, o_X9_truth])
set_option maxHeartbeats 100000 in
theorem o_X9_goesBoth (w : Int64) (p1 : Bool) (p2 : Bool) (h : HD) : jX9_goesBoth p1 p2 (o8 h w) = om w (jX9_goesBoth p1 p2 h) := by
  unfold jX9_goesBoth
  repeat' (first | with_reducible rfl |  intro _ | with_reducible apply lcg | with_reducible apply bcg | with_reducible apply icg | simp only [oh_bind, om_bind, bind_oh, bind_om, oh_some, om_some, oh_none, om_none, oh_ite, om_ite, gI_o8, gJ_o8, sI_o8, sJ_o8, lt_o8, oh_lt, om_lt])
set_option maxHeartbeats 100000 in
theorem o_X9_four_L3 (w : Int64) (p1 : Int32) : ∀ (n : Nat) (y1 : Int32) (h : HD), jX9_four_L3 p1 n y1 (o8 h w) = oh w (jX9_four_L3 p1 n y1 h) := by
  intro n
  induction n with
  | zero => intros; rfl
  | succ n ih =>
    intro y1 h
    simp only [jX9_four_L3]
    repeat' (first | with_reducible rfl | with_reducible apply ih |  intro _ | with_reducible apply lcg | with_reducible apply bcg | with_reducible apply icg | simp only [oh_bind, om_bind, bind_oh, bind_om, oh_some, om_some, oh_none, om_none, oh_ite, om_ite, gI_o8, gJ_o8, sI_o8, sJ_o8, lt_o8, oh_lt, om_lt])
set_option maxHeartbeats 100000 in
theorem o_X9_four (w : Int64) (p1 : Int32) (h : HD) : jX9_four p1 (o8 h w) = oh w (jX9_four p1 h) := by
  unfold jX9_four
  generalize FU = N
  repeat' (first | with_reducible rfl |  intro _ | with_reducible apply lcg | with_reducible apply bcg | with_reducible apply icg | simp only [oh_bind, om_bind, bind_oh, bind_om, oh_some, om_some, oh_none, om_none, oh_ite, om_ite, gI_o8, gJ_o8, sI_o8, sJ_o8, lt_o8, oh_lt, om_lt, o_X9_four_L3])
set_option maxHeartbeats 100000 in
theorem o_X9_feed (w : Int64) (p1 : Int32) (p2 : Int32) (p3 : Int32) (p4 : Int32) (p5 : Int32) (h : HD) : jX9_feed p1 p2 p3 p4 p5 (o8 h w) = om w (jX9_feed p1 p2 p3 p4 p5 h) := by
  unfold jX9_feed
  repeat' (first | with_reducible rfl |  intro _ | with_reducible apply lcg | with_reducible apply bcg | with_reducible apply icg | simp only [oh_bind, om_bind, bind_oh, bind_om, oh_some, om_some, oh_none, om_none, oh_ite, om_ite, gI_o8, gJ_o8, sI_o8, sJ_o8, lt_o8, oh_lt, om_lt, o_X9_goes, o_X9_four])
set_option maxHeartbeats 100000 in
theorem o_X9_truncate (w : Int64) (p1 : Int32) (h : HD) : jX9_truncate p1 (o8 h w) = om w (jX9_truncate p1 h) := by
  unfold jX9_truncate
  repeat' (first | with_reducible rfl |  intro _ | with_reducible apply lcg | with_reducible apply bcg | with_reducible apply icg | simp only [oh_bind, om_bind, bind_oh, bind_om, oh_some, om_some, oh_none, om_none, oh_ite, om_ite, gI_o8, gJ_o8, sI_o8, sJ_o8, lt_o8, oh_lt, om_lt, o_X9_isIn, o_X9_goes])
set_option maxHeartbeats 100000 in
theorem o_X9_here (w : Int64) (p1 : Int32) (h : HD) : jX9_here p1 (o8 h w) = jX9_here p1 h := by
  unfold jX9_here
  repeat' (first | with_reducible rfl |  intro _ | with_reducible apply lcg | with_reducible apply bcg | with_reducible apply icg | simp only [oh_bind, om_bind, bind_oh, bind_om, oh_some, om_some, oh_none, om_none, oh_ite, om_ite, gI_o8, gJ_o8, sI_o8, sJ_o8, lt_o8, oh_lt, om_lt])
set_option maxHeartbeats 100000 in
theorem o_X9_isLetter (w : Int64) (p1 : Int32) (h : HD) : jX9_isLetter p1 (o8 h w) = jX9_isLetter p1 h := by
  unfold jX9_isLetter
  repeat' (first | with_reducible rfl |  intro _ | with_reducible apply lcg | with_reducible apply bcg | with_reducible apply icg | simp only [oh_bind, om_bind, bind_oh, bind_om, oh_some, om_some, oh_none, om_none, oh_ite, om_ite, gI_o8, gJ_o8, sI_o8, sJ_o8, lt_o8, oh_lt, om_lt])
set_option maxHeartbeats 100000 in
theorem o_X9_isDigit (w : Int64) (p1 : Int32) (h : HD) : jX9_isDigit p1 (o8 h w) = jX9_isDigit p1 h := by
  unfold jX9_isDigit
  repeat' (first | with_reducible rfl |  intro _ | with_reducible apply lcg | with_reducible apply bcg | with_reducible apply icg | simp only [oh_bind, om_bind, bind_oh, bind_om, oh_some, om_some, oh_none, om_none, oh_ite, om_ite, gI_o8, gJ_o8, sI_o8, sJ_o8, lt_o8, oh_lt, om_lt])
set_option maxHeartbeats 100000 in
theorem o_X9_goOnRead_L0 (w : Int64) (k33 : HD → Option HD) (hk33 : ∀ (h : HD), k33 (o8 h w) = oh w (k33 h)) : ∀ (n : Nat) (h : HD), jX9_goOnRead_L0 k33 n (o8 h w) = oh w (jX9_goOnRead_L0 k33 n h) := by
  intro n
  induction n with
  | zero => intros; rfl
  | succ n ih =>
    intro h
    simp only [jX9_goOnRead_L0]
    repeat' (first | with_reducible rfl | with_reducible apply ih | with_reducible apply hk33 |  intro _ | with_reducible apply lcg | with_reducible apply bcg | with_reducible apply icg | simp only [oh_bind, om_bind, bind_oh, bind_om, oh_some, om_some, oh_none, om_none, oh_ite, om_ite, gI_o8, gJ_o8, sI_o8, sJ_o8, lt_o8, oh_lt, om_lt, o_X9_here])
set_option maxHeartbeats 100000 in
theorem o_X9_goOnRead_L146 (w : Int64) (k188 : Int32 → HD → Option HD) (hk188 : ∀ (z0 : Int32) (h : HD), k188 z0 (o8 h w) = oh w (k188 z0 h)) : ∀ (n : Nat) (y1 : Int32) (h : HD), jX9_goOnRead_L146 k188 n y1 (o8 h w) = oh w (jX9_goOnRead_L146 k188 n y1 h) := by
  intro n
  induction n with
  | zero => intros; rfl
  | succ n ih =>
    intro y1 h
    simp only [jX9_goOnRead_L146]
    repeat' (first | with_reducible rfl | with_reducible apply ih | with_reducible apply hk188 |  intro _ | with_reducible apply lcg | with_reducible apply bcg | with_reducible apply icg | simp only [oh_bind, om_bind, bind_oh, bind_om, oh_some, om_some, oh_none, om_none, oh_ite, om_ite, gI_o8, gJ_o8, sI_o8, sJ_o8, lt_o8, oh_lt, om_lt, o_X9_here, o_X9_isDigit])
set_option maxHeartbeats 100000 in
theorem o_X9_goOnRead_L76 (w : Int64) (k121 : Int32 → HD → Option HD) (hk121 : ∀ (z0 : Int32) (h : HD), k121 z0 (o8 h w) = oh w (k121 z0 h)) : ∀ (n : Nat) (y1 : Int32) (h : HD), jX9_goOnRead_L76 k121 n y1 (o8 h w) = oh w (jX9_goOnRead_L76 k121 n y1 h) := by
  intro n
  induction n with
  | zero => intros; rfl
  | succ n ih =>
    intro y1 h
    simp only [jX9_goOnRead_L76]
    repeat' (first | with_reducible rfl | with_reducible apply ih | with_reducible apply hk121 |  intro _ | with_reducible apply lcg | with_reducible apply bcg | with_reducible apply icg | simp only [oh_bind, om_bind, bind_oh, bind_om, oh_some, om_some, oh_none, om_none, oh_ite, om_ite, gI_o8, gJ_o8, sI_o8, sJ_o8, lt_o8, oh_lt, om_lt, o_X9_here, o_X9_isLetter])
set_option maxHeartbeats 100000 in
theorem o_X9_goOnRead (w : Int64) (h : HD) : jX9_goOnRead (o8 h w) = oh w (jX9_goOnRead h) := by
  unfold jX9_goOnRead
  generalize FU = N
  repeat' (first | with_reducible rfl | with_reducible apply o_X9_goOnRead_L0 | with_reducible apply o_X9_goOnRead_L146 | with_reducible apply o_X9_goOnRead_L76 |  intro _ | with_reducible apply lcg | with_reducible apply bcg | with_reducible apply icg | simp only [oh_bind, om_bind, bind_oh, bind_om, oh_some, om_some, oh_none, om_none, oh_ite, om_ite, gI_o8, gJ_o8, sI_o8, sJ_o8, lt_o8, oh_lt, om_lt, o_X9_here, o_X9_isLetter, o_X9_isDigit])
set_option maxHeartbeats 100000 in
theorem o_X9_wrong (w : Int64) (p1 : Int32) (h : HD) : jX9_wrong p1 (o8 h w) = oh w (jX9_wrong p1 h) := by
  unfold jX9_wrong
  repeat' (first | with_reducible rfl |  intro _ | with_reducible apply lcg | with_reducible apply bcg | with_reducible apply icg | simp only [oh_bind, om_bind, bind_oh, bind_om, oh_some, om_some, oh_none, om_none, oh_ite, om_ite, gI_o8, gJ_o8, sI_o8, sJ_o8, lt_o8, oh_lt, om_lt])
set_option maxHeartbeats 100000 in
theorem o_X9_isGood (w : Int64) (h : HD) : jX9_isGood (o8 h w) = jX9_isGood h := by
  unfold jX9_isGood
  repeat' (first | with_reducible rfl |  intro _ | with_reducible apply lcg | with_reducible apply bcg | with_reducible apply icg | simp only [oh_bind, om_bind, bind_oh, bind_om, oh_some, om_some, oh_none, om_none, oh_ite, om_ite, gI_o8, gJ_o8, sI_o8, sJ_o8, lt_o8, oh_lt, om_lt])
set_option maxHeartbeats 100000 in
theorem o_X9_isWord (w : Int64) (p1 : Int64) (h : HD) : jX9_isWord p1 (o8 h w) = jX9_isWord p1 h := by
  unfold jX9_isWord
  repeat' (first | with_reducible rfl |  intro _ | with_reducible apply lcg | with_reducible apply bcg | with_reducible apply icg | simp only [oh_bind, om_bind, bind_oh, bind_om, oh_some, om_some, oh_none, om_none, oh_ite, om_ite, gI_o8, gJ_o8, sI_o8, sJ_o8, lt_o8, oh_lt, om_lt])
set_option maxHeartbeats 100000 in
theorem o_X9_isSign (w : Int64) (p1 : Int32) (h : HD) : jX9_isSign p1 (o8 h w) = jX9_isSign p1 h := by
  unfold jX9_isSign
  repeat' (first | with_reducible rfl |  intro _ | with_reducible apply lcg | with_reducible apply bcg | with_reducible apply icg | simp only [oh_bind, om_bind, bind_oh, bind_om, oh_some, om_some, oh_none, om_none, oh_ite, om_ite, gI_o8, gJ_o8, sI_o8, sJ_o8, lt_o8, oh_lt, om_lt])
set_option maxHeartbeats 100000 in
theorem o_X9_mustSign (w : Int64) (p1 : Int32) (h : HD) : jX9_mustSign p1 (o8 h w) = oh w (jX9_mustSign p1 h) := by
  unfold jX9_mustSign
  repeat' (first | with_reducible rfl |  intro _ | with_reducible apply lcg | with_reducible apply bcg | with_reducible apply icg | simp only [oh_bind, om_bind, bind_oh, bind_om, oh_some, om_some, oh_none, om_none, oh_ite, om_ite, gI_o8, gJ_o8, sI_o8, sJ_o8, lt_o8, oh_lt, om_lt, o_X9_goOnRead, o_X9_wrong, o_X9_isGood, o_X9_isSign])
set_option maxHeartbeats 100000 in
theorem o_X9_mustWord (w : Int64) (p1 : Int64) (h : HD) : jX9_mustWord p1 (o8 h w) = oh w (jX9_mustWord p1 h) := by
  unfold jX9_mustWord
  repeat' (first | with_reducible rfl |  intro _ | with_reducible apply lcg | with_reducible apply bcg | with_reducible apply icg | simp only [oh_bind, om_bind, bind_oh, bind_om, oh_some, om_some, oh_none, om_none, oh_ite, om_ite, gI_o8, gJ_o8, sI_o8, sJ_o8, lt_o8, oh_lt, om_lt, o_X9_goOnRead, o_X9_wrong, o_X9_isGood, o_X9_isWord])
set_option maxHeartbeats 100000 in
theorem o_X9_looks (w : Int64) (p1 : Int32) (p2 : Int32) (h : HD) : jX9_looks p1 p2 (o8 h w) = om w (jX9_looks p1 p2 h) := by
  unfold jX9_looks
  repeat' (first | with_reducible rfl |  intro _ | with_reducible apply lcg | with_reducible apply bcg | with_reducible apply icg | simp only [oh_bind, om_bind, bind_oh, bind_om, oh_some, om_some, oh_none, om_none, oh_ite, om_ite, gI_o8, gJ_o8, sI_o8, sJ_o8, lt_o8, oh_lt, om_lt, o_X9_isIn, o_X9_wrong, o_X9_isGood])
set_option maxHeartbeats 100000 in
theorem o_X9_number (w : Int64) (p1 : Int32) (p2 : Int32) (h : HD) : jX9_number p1 p2 (o8 h w) = om w (jX9_number p1 p2 h) := by
  unfold jX9_number
  repeat' (first | with_reducible rfl |  intro _ | with_reducible apply lcg | with_reducible apply bcg | with_reducible apply icg | simp only [oh_bind, om_bind, bind_oh, bind_om, oh_some, om_some, oh_none, om_none, oh_ite, om_ite, gI_o8, gJ_o8, sI_o8, sJ_o8, lt_o8, oh_lt, om_lt, o_X9_goOnRead, o_X9_isGood, o_X9_looks])
set_option maxHeartbeats 100000 in
theorem o_X9_beginsText (w : Int64) (h : HD) : jX9_beginsText (o8 h w) = oh w (jX9_beginsText h) := by
  unfold jX9_beginsText
  repeat' (first | with_reducible rfl |  intro _ | with_reducible apply lcg | with_reducible apply bcg | with_reducible apply icg | simp only [oh_bind, om_bind, bind_oh, bind_om, oh_some, om_some, oh_none, om_none, oh_ite, om_ite, gI_o8, gJ_o8, sI_o8, sJ_o8, lt_o8, oh_lt, om_lt, o_X9_goOnRead])
set_option maxHeartbeats 100000 in
theorem o_X9_endsText (w : Int64) (h : HD) : jX9_endsText (o8 h w) = om w (jX9_endsText h) := by
  unfold jX9_endsText
  repeat' (first | with_reducible rfl |  intro _ | with_reducible apply lcg | with_reducible apply bcg | with_reducible apply icg | simp only [oh_bind, om_bind, bind_oh, bind_om, oh_some, om_some, oh_none, om_none, oh_ite, om_ite, gI_o8, gJ_o8, sI_o8, sJ_o8, lt_o8, oh_lt, om_lt, o_X9_goes])
set_option maxHeartbeats 100000 in
theorem o_X9_copiesRow_L3 (w : Int64) (r1a r1b : Nat) (p2 : Int32) (r3a r3b : Nat) (p4 : Int32) : ∀ (n : Nat) (y1 : Int32) (h : HD), jX9_copiesRow_L3 (7, r1a, r1b) p2 (7, r3a, r3b) p4 n y1 (o8 h w) = oh w (jX9_copiesRow_L3 (7, r1a, r1b) p2 (7, r3a, r3b) p4 n y1 h) := by
  intro n
  induction n with
  | zero => intros; rfl
  | succ n ih =>
    intro y1 h
    simp only [jX9_copiesRow_L3]
    repeat' (first | with_reducible rfl | with_reducible apply ih |  intro _ | with_reducible apply lcg | with_reducible apply bcg | with_reducible apply icg | simp only [oh_bind, om_bind, bind_oh, bind_om, oh_some, om_some, oh_none, om_none, oh_ite, om_ite, gI_o8, gJ_o8, sI_o8, sJ_o8, lt_o8, oh_lt, om_lt])
set_option maxHeartbeats 100000 in
theorem o_X9_copiesRow (w : Int64) (r1a r1b : Nat) (p2 : Int32) (r3a r3b : Nat) (p4 : Int32) (h : HD) : jX9_copiesRow (7, r1a, r1b) p2 (7, r3a, r3b) p4 (o8 h w) = oh w (jX9_copiesRow (7, r1a, r1b) p2 (7, r3a, r3b) p4 h) := by
  unfold jX9_copiesRow
  generalize FU = N
  repeat' (first | with_reducible rfl |  intro _ | with_reducible apply lcg | with_reducible apply bcg | with_reducible apply icg | simp only [oh_bind, om_bind, bind_oh, bind_om, oh_some, om_some, oh_none, om_none, oh_ite, om_ite, gI_o8, gJ_o8, sI_o8, sJ_o8, lt_o8, oh_lt, om_lt, o_X9_copiesRow_L3])
set_option maxHeartbeats 100000 in
theorem o_X9_copiesNames_L3 (w : Int64) (r1a r1b : Nat) (p2 : Int32) (r3a r3b : Nat) (p4 : Int32) : ∀ (n : Nat) (y1 : Int32) (h : HD), jX9_copiesNames_L3 (7, r1a, r1b) p2 (7, r3a, r3b) p4 n y1 (o8 h w) = oh w (jX9_copiesNames_L3 (7, r1a, r1b) p2 (7, r3a, r3b) p4 n y1 h) := by
  intro n
  induction n with
  | zero => intros; rfl
  | succ n ih =>
    intro y1 h
    simp only [jX9_copiesNames_L3]
    repeat' (first | with_reducible rfl | with_reducible apply ih |  intro _ | with_reducible apply lcg | with_reducible apply bcg | with_reducible apply icg | simp only [oh_bind, om_bind, bind_oh, bind_om, oh_some, om_some, oh_none, om_none, oh_ite, om_ite, gI_o8, gJ_o8, sI_o8, sJ_o8, lt_o8, oh_lt, om_lt])
set_option maxHeartbeats 100000 in
theorem o_X9_copiesNames (w : Int64) (r1a r1b : Nat) (p2 : Int32) (r3a r3b : Nat) (p4 : Int32) (h : HD) : jX9_copiesNames (7, r1a, r1b) p2 (7, r3a, r3b) p4 (o8 h w) = oh w (jX9_copiesNames (7, r1a, r1b) p2 (7, r3a, r3b) p4 h) := by
  unfold jX9_copiesNames
  generalize FU = N
  repeat' (first | with_reducible rfl |  intro _ | with_reducible apply lcg | with_reducible apply bcg | with_reducible apply icg | simp only [oh_bind, om_bind, bind_oh, bind_om, oh_some, om_some, oh_none, om_none, oh_ite, om_ite, gI_o8, gJ_o8, sI_o8, sJ_o8, lt_o8, oh_lt, om_lt, o_X9_copiesNames_L3])
set_option maxHeartbeats 100000 in
theorem o_X9_clears_L2 (w : Int64) : ∀ (n : Nat) (y1 : Int32) (h : HD), jX9_clears_L2 n y1 (o8 h w) = oh w (jX9_clears_L2 n y1 h) := by
  intro n
  induction n with
  | zero => intros; rfl
  | succ n ih =>
    intro y1 h
    simp only [jX9_clears_L2]
    repeat' (first | with_reducible rfl | with_reducible apply ih |  intro _ | with_reducible apply lcg | with_reducible apply bcg | with_reducible apply icg | simp only [oh_bind, om_bind, bind_oh, bind_om, oh_some, om_some, oh_none, om_none, oh_ite, om_ite, gI_o8, gJ_o8, sI_o8, sJ_o8, lt_o8, oh_lt, om_lt])
set_option maxHeartbeats 100000 in
theorem o_X9_clears (w : Int64) (h : HD) : jX9_clears (o8 h w) = oh w (jX9_clears h) := by
  unfold jX9_clears
  generalize FU = N
  repeat' (first | with_reducible rfl |  intro _ | with_reducible apply lcg | with_reducible apply bcg | with_reducible apply icg | simp only [oh_bind, om_bind, bind_oh, bind_om, oh_some, om_some, oh_none, om_none, oh_ite, om_ite, gI_o8, gJ_o8, sI_o8, sJ_o8, lt_o8, oh_lt, om_lt, o_X9_clears_L2])
set_option maxHeartbeats 100000 in
theorem o_X9_laysAside (w : Int64) (h : HD) : jX9_laysAside (o8 h w) = oh w (jX9_laysAside h) := by
  unfold jX9_laysAside
  repeat' (first | with_reducible rfl |  intro _ | with_reducible apply lcg | with_reducible apply bcg | with_reducible apply icg | simp only [oh_bind, om_bind, bind_oh, bind_om, oh_some, om_some, oh_none, om_none, oh_ite, om_ite, gI_o8, gJ_o8, sI_o8, sJ_o8, lt_o8, oh_lt, om_lt, o_X9_copiesRow, o_X9_copiesNames])
set_option maxHeartbeats 100000 in
theorem o_X9_goesBack (w : Int64) (h : HD) : jX9_goesBack (o8 h w) = oh w (jX9_goesBack h) := by
  unfold jX9_goesBack
  repeat' (first | with_reducible rfl |  intro _ | with_reducible apply lcg | with_reducible apply bcg | with_reducible apply icg | simp only [oh_bind, om_bind, bind_oh, bind_om, oh_some, om_some, oh_none, om_none, oh_ite, om_ite, gI_o8, gJ_o8, sI_o8, sJ_o8, lt_o8, oh_lt, om_lt, o_X9_copiesRow, o_X9_copiesNames])
set_option maxHeartbeats 100000 in
theorem o_X9_keeps_L21 (w : Int64) (k53 : HD → Option HD) (hk53 : ∀ (h : HD), k53 (o8 h w) = oh w (k53 h)) : ∀ (n : Nat) (y1 : Int32) (h : HD), jX9_keeps_L21 k53 n y1 (o8 h w) = oh w (jX9_keeps_L21 k53 n y1 h) := by
  intro n
  induction n with
  | zero => intros; rfl
  | succ n ih =>
    intro y1 h
    simp only [jX9_keeps_L21]
    repeat' (first | with_reducible rfl | with_reducible apply ih | with_reducible apply hk53 |  intro _ | with_reducible apply lcg | with_reducible apply bcg | with_reducible apply icg | simp only [oh_bind, om_bind, bind_oh, bind_om, oh_some, om_some, oh_none, om_none, oh_ite, om_ite, gI_o8, gJ_o8, sI_o8, sJ_o8, lt_o8, oh_lt, om_lt])
set_option maxHeartbeats 100000 in
theorem o_X9_keeps_L55 (w : Int64) (k87 : HD → Option HD) (hk87 : ∀ (h : HD), k87 (o8 h w) = oh w (k87 h)) : ∀ (n : Nat) (y1 : Int32) (h : HD), jX9_keeps_L55 k87 n y1 (o8 h w) = oh w (jX9_keeps_L55 k87 n y1 h) := by
  intro n
  induction n with
  | zero => intros; rfl
  | succ n ih =>
    intro y1 h
    simp only [jX9_keeps_L55]
    repeat' (first | with_reducible rfl | with_reducible apply ih | with_reducible apply hk87 |  intro _ | with_reducible apply lcg | with_reducible apply bcg | with_reducible apply icg | simp only [oh_bind, om_bind, bind_oh, bind_om, oh_some, om_some, oh_none, om_none, oh_ite, om_ite, gI_o8, gJ_o8, sI_o8, sJ_o8, lt_o8, oh_lt, om_lt])
set_option maxHeartbeats 100000 in
theorem o_X9_keeps (w : Int64) (h : HD) : jX9_keeps (o8 h w) = oh w (jX9_keeps h) := by
  unfold jX9_keeps
  generalize FU = N
  repeat' (first | with_reducible rfl | with_reducible apply o_X9_keeps_L21 | with_reducible apply o_X9_keeps_L55 |  intro _ | with_reducible apply lcg | with_reducible apply bcg | with_reducible apply icg | simp only [oh_bind, om_bind, bind_oh, bind_om, oh_some, om_some, oh_none, om_none, oh_ite, om_ite, gI_o8, gJ_o8, sI_o8, sJ_o8, lt_o8, oh_lt, om_lt, o_X9_copiesRow, o_X9_copiesNames])
set_option maxHeartbeats 100000 in
theorem o_X9_kept (w : Int64) (p1 : Int32) (h : HD) : jX9_kept p1 (o8 h w) = om w (jX9_kept p1 h) := by
  unfold jX9_kept
  repeat' (first | with_reducible rfl |  intro _ | with_reducible apply lcg | with_reducible apply bcg | with_reducible apply icg | simp only [oh_bind, om_bind, bind_oh, bind_om, oh_some, om_some, oh_none, om_none, oh_ite, om_ite, gI_o8, gJ_o8, sI_o8, sJ_o8, lt_o8, oh_lt, om_lt, o_X9_keeps])
set_option maxHeartbeats 100000 in
theorem o_X9_restore (w : Int64) (h : HD) : jX9_restore (o8 h w) = om w (jX9_restore h) := by
  unfold jX9_restore
  repeat' (first | with_reducible rfl |  intro _ | with_reducible apply lcg | with_reducible apply bcg | with_reducible apply icg | simp only [oh_bind, om_bind, bind_oh, bind_om, oh_some, om_some, oh_none, om_none, oh_ite, om_ite, gI_o8, gJ_o8, sI_o8, sJ_o8, lt_o8, oh_lt, om_lt, o_X9_goes, o_X9_copiesRow, o_X9_copiesNames])
set_option maxHeartbeats 100000 in
theorem o_X9_laysAway (w : Int64) (h : HD) : jX9_laysAway (o8 h w) = oh w (jX9_laysAway h) := by
  unfold jX9_laysAway
  repeat' (first | with_reducible rfl |  intro _ | with_reducible apply lcg | with_reducible apply bcg | with_reducible apply icg | simp only [oh_bind, om_bind, bind_oh, bind_om, oh_some, om_some, oh_none, om_none, oh_ite, om_ite, gI_o8, gJ_o8, sI_o8, sJ_o8, lt_o8, oh_lt, om_lt, o_X9_copiesRow, o_X9_copiesNames])
set_option maxHeartbeats 100000 in
theorem o_X9_fromAway (w : Int64) (p1 : Int32) (h : HD) : jX9_fromAway p1 (o8 h w) = om w (jX9_fromAway p1 h) := by
  unfold jX9_fromAway
  repeat' (first | with_reducible rfl |  intro _ | with_reducible apply lcg | with_reducible apply bcg | with_reducible apply icg | simp only [oh_bind, om_bind, bind_oh, bind_om, oh_some, om_some, oh_none, om_none, oh_ite, om_ite, gI_o8, gJ_o8, sI_o8, sJ_o8, lt_o8, oh_lt, om_lt, o_X9_copiesRow, o_X9_copiesNames])
set_option maxHeartbeats 100000 in
theorem o_X9_lesser (w : Int64) (p1 : Int32) (p2 : Int32) (h : HD) : jX9_lesser p1 p2 (o8 h w) = jX9_lesser p1 p2 h := by
  unfold jX9_lesser
  repeat' (first | with_reducible rfl |  intro _ | with_reducible apply lcg | with_reducible apply bcg | with_reducible apply icg | simp only [oh_bind, om_bind, bind_oh, bind_om, oh_some, om_some, oh_none, om_none, oh_ite, om_ite, gI_o8, gJ_o8, sI_o8, sJ_o8, lt_o8, oh_lt, om_lt])
set_option maxHeartbeats 100000 in
theorem o_X9_plain (w : Int64) (p1 : Int32) (h : HD) : jX9_plain p1 (o8 h w) = jX9_plain p1 h := by
  unfold jX9_plain
  repeat' (first | with_reducible rfl |  intro _ | with_reducible apply lcg | with_reducible apply bcg | with_reducible apply icg | simp only [oh_bind, om_bind, bind_oh, bind_om, oh_some, om_some, oh_none, om_none, oh_ite, om_ite, gI_o8, gJ_o8, sI_o8, sJ_o8, lt_o8, oh_lt, om_lt])
set_option maxHeartbeats 100000 in
theorem o_X9_refused (w : Int64) (p1 : Int32) (h : HD) : jX9_refused p1 (o8 h w) = om w (jX9_refused p1 h) := by
  unfold jX9_refused
  repeat' (first | with_reducible rfl |  intro _ | with_reducible apply lcg | with_reducible apply bcg | with_reducible apply icg | simp only [oh_bind, om_bind, bind_oh, bind_om, oh_some, om_some, oh_none, om_none, oh_ite, om_ite, gI_o8, gJ_o8, sI_o8, sJ_o8, lt_o8, oh_lt, om_lt])
set_option maxHeartbeats 100000 in
theorem o_X9_acted (w : Int64) (p1 : Int32) (h : HD) : jX9_acted p1 (o8 h w) = om w (jX9_acted p1 h) := by
  unfold jX9_acted
  repeat' (first | with_reducible rfl |  intro _ | with_reducible apply lcg | with_reducible apply bcg | with_reducible apply icg | simp only [oh_bind, om_bind, bind_oh, bind_om, oh_some, om_some, oh_none, om_none, oh_ite, om_ite, gI_o8, gJ_o8, sI_o8, sJ_o8, lt_o8, oh_lt, om_lt])
set_option maxHeartbeats 100000 in
theorem o_X9_account (w : Int64) (p1 : Int32) (h : HD) : jX9_account p1 (o8 h w) = om w (jX9_account p1 h) := by
  unfold jX9_account
  repeat' (first | with_reducible rfl |  intro _ | with_reducible apply lcg | with_reducible apply bcg | with_reducible apply icg | simp only [oh_bind, om_bind, bind_oh, bind_om, oh_some, om_some, oh_none, om_none, oh_ite, om_ite, gI_o8, gJ_o8, sI_o8, sJ_o8, lt_o8, oh_lt, om_lt, o_X9_isIn, o_X9_goes])
set_option maxHeartbeats 100000 in
theorem o_X9_spots (w : Int64) (h : HD) : jX9_spots (o8 h w) = jX9_spots h := by
  unfold jX9_spots
  repeat' (first | with_reducible rfl |  intro _ | with_reducible apply lcg | with_reducible apply bcg | with_reducible apply icg | simp only [oh_bind, om_bind, bind_oh, bind_om, oh_some, om_some, oh_none, om_none, oh_ite, om_ite, gI_o8, gJ_o8, sI_o8, sJ_o8, lt_o8, oh_lt, om_lt])
set_option maxHeartbeats 100000 in
theorem o_X9_wishOf (w : Int64) (p1 : Int32) (h : HD) : jX9_wishOf p1 (o8 h w) = jX9_wishOf p1 h := by
  unfold jX9_wishOf
  repeat' (first | with_reducible rfl |  intro _ | with_reducible apply lcg | with_reducible apply bcg | with_reducible apply icg | simp only [oh_bind, om_bind, bind_oh, bind_om, oh_some, om_some, oh_none, om_none, oh_ite, om_ite, gI_o8, gJ_o8, sI_o8, sJ_o8, lt_o8, oh_lt, om_lt])
set_option maxHeartbeats 100000 in
theorem o_X9_isCar (w : Int64) (p1 : Int32) (h : HD) : jX9_isCar p1 (o8 h w) = jX9_isCar p1 h := by
  unfold jX9_isCar
  repeat' (first | with_reducible rfl |  intro _ | with_reducible apply lcg | with_reducible apply bcg | with_reducible apply icg | simp only [oh_bind, om_bind, bind_oh, bind_om, oh_some, om_some, oh_none, om_none, oh_ite, om_ite, gI_o8, gJ_o8, sI_o8, sJ_o8, lt_o8, oh_lt, om_lt, o_X9_isIn])
set_option maxHeartbeats 100000 in
theorem o_X9_isSpot (w : Int64) (p1 : Int32) (h : HD) : jX9_isSpot p1 (o8 h w) = jX9_isSpot p1 h := by
  unfold jX9_isSpot
  repeat' (first | with_reducible rfl |  intro _ | with_reducible apply lcg | with_reducible apply bcg | with_reducible apply icg | simp only [oh_bind, om_bind, bind_oh, bind_om, oh_some, om_some, oh_none, om_none, oh_ite, om_ite, gI_o8, gJ_o8, sI_o8, sJ_o8, lt_o8, oh_lt, om_lt, o_X9_isIn])
set_option maxHeartbeats 100000 in
theorem o_X9_round (w : Int64) (p1 : Int32) (h : HD) : jX9_round p1 (o8 h w) = jX9_round p1 h := by
  unfold jX9_round
  repeat' (first | with_reducible rfl |  intro _ | with_reducible apply lcg | with_reducible apply bcg | with_reducible apply icg | simp only [oh_bind, om_bind, bind_oh, bind_om, oh_some, om_some, oh_none, om_none, oh_ite, om_ite, gI_o8, gJ_o8, sI_o8, sJ_o8, lt_o8, oh_lt, om_lt, o_X9_spots])
set_option maxHeartbeats 100000 in
theorem o_X9_movedBy_L14 (w : Int64) (p1 : Int32) (k49 : Option Int32) (h : HD) : ∀ (n : Nat) (y1 : Int32), jX9_movedBy_L14 p1 (o8 h w) k49 n y1 = jX9_movedBy_L14 p1 h k49 n y1 := by
  intro n
  induction n with
  | zero => intros; rfl
  | succ n ih =>
    intro y1
    simp only [jX9_movedBy_L14]
    repeat' (first | with_reducible rfl | with_reducible apply ih |  intro _ | with_reducible apply lcg | with_reducible apply bcg | with_reducible apply icg | simp only [oh_bind, om_bind, bind_oh, bind_om, oh_some, om_some, oh_none, om_none, oh_ite, om_ite, gI_o8, gJ_o8, sI_o8, sJ_o8, lt_o8, oh_lt, om_lt, o_X9_round])
set_option maxHeartbeats 100000 in
theorem o_X9_movedBy_L51 (w : Int64) (p1 : Int32) (h : HD) : ∀ (n : Nat) (y1 : Int32), jX9_movedBy_L51 p1 (o8 h w) n y1 = jX9_movedBy_L51 p1 h n y1 := by
  intro n
  induction n with
  | zero => intros; rfl
  | succ n ih =>
    intro y1
    simp only [jX9_movedBy_L51]
    repeat' (first | with_reducible rfl | with_reducible apply ih |  intro _ | with_reducible apply lcg | with_reducible apply bcg | with_reducible apply icg | simp only [oh_bind, om_bind, bind_oh, bind_om, oh_some, om_some, oh_none, om_none, oh_ite, om_ite, gI_o8, gJ_o8, sI_o8, sJ_o8, lt_o8, oh_lt, om_lt, o_X9_round])
set_option maxHeartbeats 100000 in
theorem o_X9_movedBy (w : Int64) (p1 : Int32) (h : HD) : jX9_movedBy p1 (o8 h w) = jX9_movedBy p1 h := by
  unfold jX9_movedBy
  generalize FU = N
  repeat' (first | with_reducible rfl |  intro _ | with_reducible apply lcg | with_reducible apply bcg | with_reducible apply icg | simp only [oh_bind, om_bind, bind_oh, bind_om, oh_some, om_some, oh_none, om_none, oh_ite, om_ite, gI_o8, gJ_o8, sI_o8, sJ_o8, lt_o8, oh_lt, om_lt, o_X9_movedBy_L14, o_X9_movedBy_L51])
set_option maxHeartbeats 100000 in
theorem o_X9_parks_L2 (w : Int64) (p1 : Int32) (k23 : HD → Option HD) (hk23 : ∀ (h : HD), k23 (o8 h w) = oh w (k23 h)) : ∀ (n : Nat) (y1 : Int32) (h : HD), jX9_parks_L2 p1 k23 n y1 (o8 h w) = oh w (jX9_parks_L2 p1 k23 n y1 h) := by
  intro n
  induction n with
  | zero => intros; rfl
  | succ n ih =>
    intro y1 h
    simp only [jX9_parks_L2]
    repeat' (first | with_reducible rfl | with_reducible apply ih | with_reducible apply hk23 |  intro _ | with_reducible apply lcg | with_reducible apply bcg | with_reducible apply icg | simp only [oh_bind, om_bind, bind_oh, bind_om, oh_some, om_some, oh_none, om_none, oh_ite, om_ite, gI_o8, gJ_o8, sI_o8, sJ_o8, lt_o8, oh_lt, om_lt, o_X9_spots])
set_option maxHeartbeats 100000 in
theorem o_X9_parks_L25 (w : Int64) (p1 : Int32) : ∀ (n : Nat) (y1 : Int32) (h : HD), jX9_parks_L25 p1 n y1 (o8 h w) = oh w (jX9_parks_L25 p1 n y1 h) := by
  intro n
  induction n with
  | zero => intros; rfl
  | succ n ih =>
    intro y1 h
    simp only [jX9_parks_L25]
    repeat' (first | with_reducible rfl | with_reducible apply ih |  intro _ | with_reducible apply lcg | with_reducible apply bcg | with_reducible apply icg | simp only [oh_bind, om_bind, bind_oh, bind_om, oh_some, om_some, oh_none, om_none, oh_ite, om_ite, gI_o8, gJ_o8, sI_o8, sJ_o8, lt_o8, oh_lt, om_lt, o_X9_wishOf, o_X9_round, o_X9_movedBy])
set_option maxHeartbeats 100000 in
theorem o_X9_parks (w : Int64) (p1 : Int32) (h : HD) : jX9_parks p1 (o8 h w) = oh w (jX9_parks p1 h) := by
  unfold jX9_parks
  generalize FU = N
  repeat' (first | with_reducible rfl | with_reducible apply o_X9_parks_L2 |  intro _ | with_reducible apply lcg | with_reducible apply bcg | with_reducible apply icg | simp only [oh_bind, om_bind, bind_oh, bind_om, oh_some, om_some, oh_none, om_none, oh_ite, om_ite, gI_o8, gJ_o8, sI_o8, sJ_o8, lt_o8, oh_lt, om_lt, o_X9_parks_L25])
set_option maxHeartbeats 100000 in
theorem o_X9_gapSpot_L2 (w : Int64) (h : HD) : ∀ (n : Nat) (y1 : Int32), jX9_gapSpot_L2 (o8 h w) n y1 = jX9_gapSpot_L2 h n y1 := by
  intro n
  induction n with
  | zero => intros; rfl
  | succ n ih =>
    intro y1
    simp only [jX9_gapSpot_L2]
    repeat' (first | with_reducible rfl | with_reducible apply ih |  intro _ | with_reducible apply lcg | with_reducible apply bcg | with_reducible apply icg | simp only [oh_bind, om_bind, bind_oh, bind_om, oh_some, om_some, oh_none, om_none, oh_ite, om_ite, gI_o8, gJ_o8, sI_o8, sJ_o8, lt_o8, oh_lt, om_lt])
set_option maxHeartbeats 100000 in
theorem o_X9_gapSpot (w : Int64) (h : HD) : jX9_gapSpot (o8 h w) = jX9_gapSpot h := by
  unfold jX9_gapSpot
  generalize FU = N
  repeat' (first | with_reducible rfl |  intro _ | with_reducible apply lcg | with_reducible apply bcg | with_reducible apply icg | simp only [oh_bind, om_bind, bind_oh, bind_om, oh_some, om_some, oh_none, om_none, oh_ite, om_ite, gI_o8, gJ_o8, sI_o8, sJ_o8, lt_o8, oh_lt, om_lt, o_X9_gapSpot_L2])
set_option maxHeartbeats 100000 in
theorem o_X9_turnNow (w : Int64) (h : HD) : jX9_turnNow (o8 h w) = jX9_turnNow h := by
  unfold jX9_turnNow
  repeat' (first | with_reducible rfl |  intro _ | with_reducible apply lcg | with_reducible apply bcg | with_reducible apply icg | simp only [oh_bind, om_bind, bind_oh, bind_om, oh_some, om_some, oh_none, om_none, oh_ite, om_ite, gI_o8, gJ_o8, sI_o8, sJ_o8, lt_o8, oh_lt, om_lt, o_X9_gapSpot])
set_option maxHeartbeats 100000 in
theorem o_X9_turnedWish (w : Int64) (p1 : Int32) (p2 : Int32) (h : HD) : jX9_turnedWish p1 p2 (o8 h w) = jX9_turnedWish p1 p2 h := by
  unfold jX9_turnedWish
  repeat' (first | with_reducible rfl |  intro _ | with_reducible apply lcg | with_reducible apply bcg | with_reducible apply icg | simp only [oh_bind, om_bind, bind_oh, bind_om, oh_some, om_some, oh_none, om_none, oh_ite, om_ite, gI_o8, gJ_o8, sI_o8, sJ_o8, lt_o8, oh_lt, om_lt, o_X9_wishOf, o_X9_round])
set_option maxHeartbeats 100000 in
theorem o_X9_lineFor_L14 (w : Int64) (p1 : Int32) (k51 : Option Int32) (h : HD) : ∀ (n : Nat) (y1 : Int32), jX9_lineFor_L14 p1 (o8 h w) k51 n y1 = jX9_lineFor_L14 p1 h k51 n y1 := by
  intro n
  induction n with
  | zero => intros; rfl
  | succ n ih =>
    intro y1
    simp only [jX9_lineFor_L14]
    repeat' (first | with_reducible rfl | with_reducible apply ih |  intro _ | with_reducible apply lcg | with_reducible apply bcg | with_reducible apply icg | simp only [oh_bind, om_bind, bind_oh, bind_om, oh_some, om_some, oh_none, om_none, oh_ite, om_ite, gI_o8, gJ_o8, sI_o8, sJ_o8, lt_o8, oh_lt, om_lt])
set_option maxHeartbeats 100000 in
theorem o_X9_lineFor_L53 (w : Int64) (p1 : Int32) (h : HD) : ∀ (n : Nat) (y1 : Int32), jX9_lineFor_L53 p1 (o8 h w) n y1 = jX9_lineFor_L53 p1 h n y1 := by
  intro n
  induction n with
  | zero => intros; rfl
  | succ n ih =>
    intro y1
    simp only [jX9_lineFor_L53]
    repeat' (first | with_reducible rfl | with_reducible apply ih |  intro _ | with_reducible apply lcg | with_reducible apply bcg | with_reducible apply icg | simp only [oh_bind, om_bind, bind_oh, bind_om, oh_some, om_some, oh_none, om_none, oh_ite, om_ite, gI_o8, gJ_o8, sI_o8, sJ_o8, lt_o8, oh_lt, om_lt])
set_option maxHeartbeats 100000 in
theorem o_X9_lineFor (w : Int64) (p1 : Int32) (h : HD) : jX9_lineFor p1 (o8 h w) = jX9_lineFor p1 h := by
  unfold jX9_lineFor
  generalize FU = N
  repeat' (first | with_reducible rfl |  intro _ | with_reducible apply lcg | with_reducible apply bcg | with_reducible apply icg | simp only [oh_bind, om_bind, bind_oh, bind_om, oh_some, om_some, oh_none, om_none, oh_ite, om_ite, gI_o8, gJ_o8, sI_o8, sJ_o8, lt_o8, oh_lt, om_lt, o_X9_lineFor_L14, o_X9_lineFor_L53])
set_option maxHeartbeats 100000 in
theorem o_X9_parksByLine_L17 (w : Int64) (x1 : Int32) (k38 : HD → Option HD) (hk38 : ∀ (h : HD), k38 (o8 h w) = oh w (k38 h)) : ∀ (n : Nat) (y1 : Int32) (h : HD), jX9_parksByLine_L17 x1 k38 n y1 (o8 h w) = oh w (jX9_parksByLine_L17 x1 k38 n y1 h) := by
  intro n
  induction n with
  | zero => intros; rfl
  | succ n ih =>
    intro y1 h
    simp only [jX9_parksByLine_L17]
    repeat' (first | with_reducible rfl | with_reducible apply ih | with_reducible apply hk38 |  intro _ | with_reducible apply lcg | with_reducible apply bcg | with_reducible apply icg | simp only [oh_bind, om_bind, bind_oh, bind_om, oh_some, om_some, oh_none, om_none, oh_ite, om_ite, gI_o8, gJ_o8, sI_o8, sJ_o8, lt_o8, oh_lt, om_lt, o_X9_spots])
set_option maxHeartbeats 100000 in
theorem o_X9_parksByLine_L40 (w : Int64) (x1 : Int32) : ∀ (n : Nat) (y1 : Int32) (h : HD), jX9_parksByLine_L40 x1 n y1 (o8 h w) = oh w (jX9_parksByLine_L40 x1 n y1 h) := by
  intro n
  induction n with
  | zero => intros; rfl
  | succ n ih =>
    intro y1 h
    simp only [jX9_parksByLine_L40]
    repeat' (first | with_reducible rfl | with_reducible apply ih |  intro _ | with_reducible apply lcg | with_reducible apply bcg | with_reducible apply icg | simp only [oh_bind, om_bind, bind_oh, bind_om, oh_some, om_some, oh_none, om_none, oh_ite, om_ite, gI_o8, gJ_o8, sI_o8, sJ_o8, lt_o8, oh_lt, om_lt, o_X9_round, o_X9_turnedWish, o_X9_lineFor])
set_option maxHeartbeats 100000 in
theorem o_X9_parksByLine (w : Int64) (h : HD) : jX9_parksByLine (o8 h w) = oh w (jX9_parksByLine h) := by
  unfold jX9_parksByLine
  generalize FU = N
  repeat' (first | with_reducible rfl | with_reducible apply o_X9_parksByLine_L17 |  intro _ | with_reducible apply lcg | with_reducible apply bcg | with_reducible apply icg | simp only [oh_bind, om_bind, bind_oh, bind_om, oh_some, om_some, oh_none, om_none, oh_ite, om_ite, gI_o8, gJ_o8, sI_o8, sJ_o8, lt_o8, oh_lt, om_lt, o_X9_parks, o_X9_turnNow, o_X9_parksByLine_L40])
set_option maxHeartbeats 100000 in
theorem o_X9_luckyMany_L4 (w : Int64) (h : HD) : ∀ (n : Nat) (y1 : Int32) (y2 : Int32), jX9_luckyMany_L4 (o8 h w) n y1 y2 = jX9_luckyMany_L4 h n y1 y2 := by
  intro n
  induction n with
  | zero => intros; rfl
  | succ n ih =>
    intro y1 y2
    simp only [jX9_luckyMany_L4]
    repeat' (first | with_reducible rfl | with_reducible apply ih |  intro _ | with_reducible apply lcg | with_reducible apply bcg | with_reducible apply icg | simp only [oh_bind, om_bind, bind_oh, bind_om, oh_some, om_some, oh_none, om_none, oh_ite, om_ite, gI_o8, gJ_o8, sI_o8, sJ_o8, lt_o8, oh_lt, om_lt, o_X9_truth])
set_option maxHeartbeats 100000 in
theorem o_X9_luckyMany (w : Int64) (h : HD) : jX9_luckyMany (o8 h w) = jX9_luckyMany h := by
  unfold jX9_luckyMany
  generalize FU = N
  repeat' (first | with_reducible rfl |  intro _ | with_reducible apply lcg | with_reducible apply bcg | with_reducible apply icg | simp only [oh_bind, om_bind, bind_oh, bind_om, oh_some, om_some, oh_none, om_none, oh_ite, om_ite, gI_o8, gJ_o8, sI_o8, sJ_o8, lt_o8, oh_lt, om_lt, o_X9_luckyMany_L4])
set_option maxHeartbeats 100000 in
theorem o_X9_area_L4 (w : Int64) (h : HD) : ∀ (n : Nat) (y1 : Int32) (y2 : Int32), jX9_area_L4 (o8 h w) n y1 y2 = jX9_area_L4 h n y1 y2 := by
  intro n
  induction n with
  | zero => intros; rfl
  | succ n ih =>
    intro y1 y2
    simp only [jX9_area_L4]
    repeat' (first | with_reducible rfl | with_reducible apply ih |  intro _ | with_reducible apply lcg | with_reducible apply bcg | with_reducible apply icg | simp only [oh_bind, om_bind, bind_oh, bind_om, oh_some, om_some, oh_none, om_none, oh_ite, om_ite, gI_o8, gJ_o8, sI_o8, sJ_o8, lt_o8, oh_lt, om_lt])
set_option maxHeartbeats 100000 in
theorem o_X9_area (w : Int64) (h : HD) : jX9_area (o8 h w) = jX9_area h := by
  unfold jX9_area
  generalize FU = N
  repeat' (first | with_reducible rfl |  intro _ | with_reducible apply lcg | with_reducible apply bcg | with_reducible apply icg | simp only [oh_bind, om_bind, bind_oh, bind_om, oh_some, om_some, oh_none, om_none, oh_ite, om_ite, gI_o8, gJ_o8, sI_o8, sJ_o8, lt_o8, oh_lt, om_lt, o_X9_area_L4])
set_option maxHeartbeats 100000 in
theorem o_X9_way_L4 (w : Int64) (h : HD) : ∀ (n : Nat) (y1 : Int32) (y2 : Int32), jX9_way_L4 (o8 h w) n y1 y2 = jX9_way_L4 h n y1 y2 := by
  intro n
  induction n with
  | zero => intros; rfl
  | succ n ih =>
    intro y1 y2
    simp only [jX9_way_L4]
    repeat' (first | with_reducible rfl | with_reducible apply ih |  intro _ | with_reducible apply lcg | with_reducible apply bcg | with_reducible apply icg | simp only [oh_bind, om_bind, bind_oh, bind_om, oh_some, om_some, oh_none, om_none, oh_ite, om_ite, gI_o8, gJ_o8, sI_o8, sJ_o8, lt_o8, oh_lt, om_lt, o_X9_plain])
set_option maxHeartbeats 100000 in
theorem o_X9_way (w : Int64) (h : HD) : jX9_way (o8 h w) = jX9_way h := by
  unfold jX9_way
  generalize FU = N
  repeat' (first | with_reducible rfl |  intro _ | with_reducible apply lcg | with_reducible apply bcg | with_reducible apply icg | simp only [oh_bind, om_bind, bind_oh, bind_om, oh_some, om_some, oh_none, om_none, oh_ite, om_ite, gI_o8, gJ_o8, sI_o8, sJ_o8, lt_o8, oh_lt, om_lt, o_X9_way_L4])
set_option maxHeartbeats 100000 in
theorem o_X9_isBreak_L10 (w : Int64) (p1 : Int32) (x2 : Int32) (k49 : Int32 → Option Bool) (h : HD) : ∀ (n : Nat) (y1 : Int32) (y2 : Int32), jX9_isBreak_L10 p1 x2 (o8 h w) k49 n y1 y2 = jX9_isBreak_L10 p1 x2 h k49 n y1 y2 := by
  intro n
  induction n with
  | zero => intros; rfl
  | succ n ih =>
    intro y1 y2
    simp only [jX9_isBreak_L10]
    repeat' (first | with_reducible rfl | with_reducible apply ih |  intro _ | with_reducible apply lcg | with_reducible apply bcg | with_reducible apply icg | simp only [oh_bind, om_bind, bind_oh, bind_om, oh_some, om_some, oh_none, om_none, oh_ite, om_ite, gI_o8, gJ_o8, sI_o8, sJ_o8, lt_o8, oh_lt, om_lt, o_X9_truth, o_X9_turnedWish])
set_option maxHeartbeats 100000 in
theorem o_X9_isBreak (w : Int64) (p1 : Int32) (h : HD) : jX9_isBreak p1 (o8 h w) = jX9_isBreak p1 h := by
  unfold jX9_isBreak
  generalize FU = N
  repeat' (first | with_reducible rfl |  intro _ | with_reducible apply lcg | with_reducible apply bcg | with_reducible apply icg | simp only [oh_bind, om_bind, bind_oh, bind_om, oh_some, om_some, oh_none, om_none, oh_ite, om_ite, gI_o8, gJ_o8, sI_o8, sJ_o8, lt_o8, oh_lt, om_lt, o_X9_turnNow, o_X9_isBreak_L10])
set_option maxHeartbeats 100000 in
theorem o_X9_breaks_L4 (w : Int64) (h : HD) : ∀ (n : Nat) (y1 : Int32) (y2 : Int32), jX9_breaks_L4 (o8 h w) n y1 y2 = jX9_breaks_L4 h n y1 y2 := by
  intro n
  induction n with
  | zero => intros; rfl
  | succ n ih =>
    intro y1 y2
    simp only [jX9_breaks_L4]
    repeat' (first | with_reducible rfl | with_reducible apply ih |  intro _ | with_reducible apply lcg | with_reducible apply bcg | with_reducible apply icg | simp only [oh_bind, om_bind, bind_oh, bind_om, oh_some, om_some, oh_none, om_none, oh_ite, om_ite, gI_o8, gJ_o8, sI_o8, sJ_o8, lt_o8, oh_lt, om_lt, o_X9_truth, o_X9_isBreak])
set_option maxHeartbeats 100000 in
theorem o_X9_breaks (w : Int64) (h : HD) : jX9_breaks (o8 h w) = jX9_breaks h := by
  unfold jX9_breaks
  generalize FU = N
  repeat' (first | with_reducible rfl |  intro _ | with_reducible apply lcg | with_reducible apply bcg | with_reducible apply icg | simp only [oh_bind, om_bind, bind_oh, bind_om, oh_some, om_some, oh_none, om_none, oh_ite, om_ite, gI_o8, gJ_o8, sI_o8, sJ_o8, lt_o8, oh_lt, om_lt, o_X9_breaks_L4])
set_option maxHeartbeats 100000 in
theorem o_X9_wants_L4 (w : Int64) (p1 : Int32) (h : HD) : ∀ (n : Nat) (y1 : Int32) (y2 : Int32), jX9_wants_L4 p1 (o8 h w) n y1 y2 = jX9_wants_L4 p1 h n y1 y2 := by
  intro n
  induction n with
  | zero => intros; rfl
  | succ n ih =>
    intro y1 y2
    simp only [jX9_wants_L4]
    repeat' (first | with_reducible rfl | with_reducible apply ih |  intro _ | with_reducible apply lcg | with_reducible apply bcg | with_reducible apply icg | simp only [oh_bind, om_bind, bind_oh, bind_om, oh_some, om_some, oh_none, om_none, oh_ite, om_ite, gI_o8, gJ_o8, sI_o8, sJ_o8, lt_o8, oh_lt, om_lt, o_X9_truth, o_X9_wishOf])
set_option maxHeartbeats 100000 in
theorem o_X9_wants (w : Int64) (p1 : Int32) (h : HD) : jX9_wants p1 (o8 h w) = jX9_wants p1 h := by
  unfold jX9_wants
  generalize FU = N
  repeat' (first | with_reducible rfl |  intro _ | with_reducible apply lcg | with_reducible apply bcg | with_reducible apply icg | simp only [oh_bind, om_bind, bind_oh, bind_om, oh_some, om_some, oh_none, om_none, oh_ite, om_ite, gI_o8, gJ_o8, sI_o8, sJ_o8, lt_o8, oh_lt, om_lt, o_X9_wants_L4])
set_option maxHeartbeats 100000 in
theorem o_X9_preferred_L4 (w : Int64) (h : HD) : ∀ (n : Nat) (y1 : Int32) (y2 : Int32), jX9_preferred_L4 (o8 h w) n y1 y2 = jX9_preferred_L4 h n y1 y2 := by
  intro n
  induction n with
  | zero => intros; rfl
  | succ n ih =>
    intro y1 y2
    simp only [jX9_preferred_L4]
    repeat' (first | with_reducible rfl | with_reducible apply ih |  intro _ | with_reducible apply lcg | with_reducible apply bcg | with_reducible apply icg | simp only [oh_bind, om_bind, bind_oh, bind_om, oh_some, om_some, oh_none, om_none, oh_ite, om_ite, gI_o8, gJ_o8, sI_o8, sJ_o8, lt_o8, oh_lt, om_lt, o_X9_truth, o_X9_spots, o_X9_wants])
set_option maxHeartbeats 100000 in
theorem o_X9_preferred (w : Int64) (h : HD) : jX9_preferred (o8 h w) = jX9_preferred h := by
  unfold jX9_preferred
  generalize FU = N
  repeat' (first | with_reducible rfl |  intro _ | with_reducible apply lcg | with_reducible apply bcg | with_reducible apply icg | simp only [oh_bind, om_bind, bind_oh, bind_om, oh_some, om_some, oh_none, om_none, oh_ite, om_ite, gI_o8, gJ_o8, sI_o8, sJ_o8, lt_o8, oh_lt, om_lt, o_X9_preferred_L4])
set_option maxHeartbeats 100000 in
theorem o_X9_isTakenBy (w : Int64) (p1 : Int32) (p2 : Int32) (h : HD) : jX9_isTakenBy p1 p2 (o8 h w) = jX9_isTakenBy p1 p2 h := by
  unfold jX9_isTakenBy
  repeat' (first | with_reducible rfl |  intro _ | with_reducible apply lcg | with_reducible apply bcg | with_reducible apply icg | simp only [oh_bind, om_bind, bind_oh, bind_om, oh_some, om_some, oh_none, om_none, oh_ite, om_ite, gI_o8, gJ_o8, sI_o8, sJ_o8, lt_o8, oh_lt, om_lt, o_X9_isIn])
set_option maxHeartbeats 100000 in
theorem o_X9_runOf_L2 (w : Int64) (p1 : Int32) (h : HD) : ∀ (n : Nat) (y1 : Int32), jX9_runOf_L2 p1 (o8 h w) n y1 = jX9_runOf_L2 p1 h n y1 := by
  intro n
  induction n with
  | zero => intros; rfl
  | succ n ih =>
    intro y1
    simp only [jX9_runOf_L2]
    repeat' (first | with_reducible rfl | with_reducible apply ih |  intro _ | with_reducible apply lcg | with_reducible apply bcg | with_reducible apply icg | simp only [oh_bind, om_bind, bind_oh, bind_om, oh_some, om_some, oh_none, om_none, oh_ite, om_ite, gI_o8, gJ_o8, sI_o8, sJ_o8, lt_o8, oh_lt, om_lt, o_X9_round, o_X9_isTakenBy])
set_option maxHeartbeats 100000 in
theorem o_X9_runOf (w : Int64) (p1 : Int32) (h : HD) : jX9_runOf p1 (o8 h w) = jX9_runOf p1 h := by
  unfold jX9_runOf
  generalize FU = N
  repeat' (first | with_reducible rfl |  intro _ | with_reducible apply lcg | with_reducible apply bcg | with_reducible apply icg | simp only [oh_bind, om_bind, bind_oh, bind_om, oh_some, om_some, oh_none, om_none, oh_ite, om_ite, gI_o8, gJ_o8, sI_o8, sJ_o8, lt_o8, oh_lt, om_lt, o_X9_runOf_L2])
set_option maxHeartbeats 100000 in
theorem o_X9_carNamed_L2 (w : Int64) (p1 : Int64) (h : HD) : ∀ (n : Nat) (y1 : Int32), jX9_carNamed_L2 p1 (o8 h w) n y1 = jX9_carNamed_L2 p1 h n y1 := by
  intro n
  induction n with
  | zero => intros; rfl
  | succ n ih =>
    intro y1
    simp only [jX9_carNamed_L2]
    repeat' (first | with_reducible rfl | with_reducible apply ih |  intro _ | with_reducible apply lcg | with_reducible apply bcg | with_reducible apply icg | simp only [oh_bind, om_bind, bind_oh, bind_om, oh_some, om_some, oh_none, om_none, oh_ite, om_ite, gI_o8, gJ_o8, sI_o8, sJ_o8, lt_o8, oh_lt, om_lt])
set_option maxHeartbeats 100000 in
theorem o_X9_carNamed (w : Int64) (p1 : Int64) (h : HD) : jX9_carNamed p1 (o8 h w) = jX9_carNamed p1 h := by
  unfold jX9_carNamed
  generalize FU = N
  repeat' (first | with_reducible rfl |  intro _ | with_reducible apply lcg | with_reducible apply bcg | with_reducible apply icg | simp only [oh_bind, om_bind, bind_oh, bind_om, oh_some, om_some, oh_none, om_none, oh_ite, om_ite, gI_o8, gJ_o8, sI_o8, sJ_o8, lt_o8, oh_lt, om_lt, o_X9_carNamed_L2])
set_option maxHeartbeats 100000 in
theorem o_X9_mustName (w : Int64) (h : HD) : jX9_mustName (o8 h w) = oh w (jX9_mustName h) := by
  unfold jX9_mustName
  repeat' (first | with_reducible rfl |  intro _ | with_reducible apply lcg | with_reducible apply bcg | with_reducible apply icg | simp only [oh_bind, om_bind, bind_oh, bind_om, oh_some, om_some, oh_none, om_none, oh_ite, om_ite, gI_o8, gJ_o8, sI_o8, sJ_o8, lt_o8, oh_lt, om_lt, o_X9_wrong, o_X9_isGood])
set_option maxHeartbeats 100000 in
theorem o_X9_nameHere (w : Int64) (h : HD) : jX9_nameHere (o8 h w) = om w (jX9_nameHere h) := by
  unfold jX9_nameHere
  repeat' (first | with_reducible rfl |  intro _ | with_reducible apply lcg | with_reducible apply bcg | with_reducible apply icg | simp only [oh_bind, om_bind, bind_oh, bind_om, oh_some, om_some, oh_none, om_none, oh_ite, om_ite, gI_o8, gJ_o8, sI_o8, sJ_o8, lt_o8, oh_lt, om_lt, o_X9_goOnRead, o_X9_isGood, o_X9_mustName])
set_option maxHeartbeats 4000000 in
theorem o_X9_carLine (w : Int64) (p1 : Int32) (h : HD) : jX9_carLine p1 (o8 h w) = oh w (jX9_carLine p1 h) := by
  unfold jX9_carLine
  repeat' (first | with_reducible rfl |  intro _ | with_reducible apply lcg | with_reducible apply bcg | with_reducible apply icg | simp only [oh_bind, om_bind, bind_oh, bind_om, oh_some, om_some, oh_none, om_none, oh_ite, om_ite, gI_o8, gJ_o8, sI_o8, sJ_o8, lt_o8, oh_lt, om_lt, o_X9_goOnRead, o_X9_wrong, o_X9_isGood, o_X9_isWord, o_X9_number, o_X9_carNamed, o_X9_mustName, o_X9_nameHere])
set_option maxHeartbeats 100000 in
theorem o_X9_readText_L67 (w : Int64) (x1 : Int32) (k95 : HD → Option (Int32 × HD)) (hk95 : ∀ (h : HD), k95 (o8 h w) = om w (k95 h)) : ∀ (n : Nat) (h : HD), jX9_readText_L67 x1 k95 n (o8 h w) = om w (jX9_readText_L67 x1 k95 n h) := by
  intro n
  induction n with
  | zero => intros; rfl
  | succ n ih =>
    intro h
    simp only [jX9_readText_L67]
    repeat' (first | with_reducible rfl | with_reducible apply ih | with_reducible apply hk95 |  intro _ | with_reducible apply lcg | with_reducible apply bcg | with_reducible apply icg | simp only [oh_bind, om_bind, bind_oh, bind_om, oh_some, om_some, oh_none, om_none, oh_ite, om_ite, gI_o8, gJ_o8, sI_o8, sJ_o8, lt_o8, oh_lt, om_lt, o_X9_isGood, o_X9_mustSign, o_X9_carLine])
set_option maxHeartbeats 100000 in
theorem o_X9_readText (w : Int64) (h : HD) : jX9_readText (o8 h w) = om w (jX9_readText h) := by
  unfold jX9_readText
  generalize FU = N
  repeat' (first | with_reducible rfl | with_reducible apply o_X9_readText_L67 |  intro _ | with_reducible apply lcg | with_reducible apply bcg | with_reducible apply icg | simp only [oh_bind, om_bind, bind_oh, bind_om, oh_some, om_some, oh_none, om_none, oh_ite, om_ite, gI_o8, gJ_o8, sI_o8, sJ_o8, lt_o8, oh_lt, om_lt, o_X9_goOnRead, o_X9_wrong, o_X9_isGood, o_X9_isWord, o_X9_mustSign, o_X9_mustWord, o_X9_number, o_X9_beginsText, o_X9_endsText, o_X9_clears, o_X9_laysAside, o_X9_goesBack])
set_option maxHeartbeats 100000 in
theorem o_X9_settingOf (w : Int64) (p1 : Int32) (h : HD) : jX9_settingOf p1 (o8 h w) = om w (jX9_settingOf p1 h) := by
  unfold jX9_settingOf
  repeat' (first | with_reducible rfl |  intro _ | with_reducible apply lcg | with_reducible apply bcg | with_reducible apply icg | simp only [oh_bind, om_bind, bind_oh, bind_om, oh_some, om_some, oh_none, om_none, oh_ite, om_ite, gI_o8, gJ_o8, sI_o8, sJ_o8, lt_o8, oh_lt, om_lt, o_X9_spots, o_X9_parks, o_X9_gapSpot, o_X9_turnNow, o_X9_luckyMany, o_X9_area, o_X9_way, o_X9_breaks, o_X9_preferred])
set_option maxHeartbeats 100000 in
theorem o_X9_isSetting (w : Int64) (p1 : Int32) (h : HD) : jX9_isSetting p1 (o8 h w) = jX9_isSetting p1 h := by
  unfold jX9_isSetting
  repeat' (first | with_reducible rfl |  intro _ | with_reducible apply lcg | with_reducible apply bcg | with_reducible apply icg | simp only [oh_bind, om_bind, bind_oh, bind_om, oh_some, om_some, oh_none, om_none, oh_ite, om_ite, gI_o8, gJ_o8, sI_o8, sJ_o8, lt_o8, oh_lt, om_lt, o_X9_isIn])
set_option maxHeartbeats 100000 in
theorem o_X9_setting (w : Int64) (p1 : Int32) (h : HD) : jX9_setting p1 (o8 h w) = om w (jX9_setting p1 h) := by
  unfold jX9_setting
  repeat' (first | with_reducible rfl |  intro _ | with_reducible apply lcg | with_reducible apply bcg | with_reducible apply icg | simp only [oh_bind, om_bind, bind_oh, bind_om, oh_some, om_some, oh_none, om_none, oh_ite, om_ite, gI_o8, gJ_o8, sI_o8, sJ_o8, lt_o8, oh_lt, om_lt, o_X9_goes, o_X9_settingOf, o_X9_isSetting])
set_option maxHeartbeats 100000 in
theorem o_X9_lettersOf_L4 (w : Int64) (p1 : Int64) (h : HD) : ∀ (n : Nat) (y1 : Int32) (y2 : Int64), jX9_lettersOf_L4 p1 (o8 h w) n y1 y2 = jX9_lettersOf_L4 p1 h n y1 y2 := by
  intro n
  induction n with
  | zero => intros; rfl
  | succ n ih =>
    intro y1 y2
    simp only [jX9_lettersOf_L4]
    repeat' (first | with_reducible rfl | with_reducible apply ih |  intro _ | with_reducible apply lcg | with_reducible apply bcg | with_reducible apply icg | simp only [oh_bind, om_bind, bind_oh, bind_om, oh_some, om_some, oh_none, om_none, oh_ite, om_ite, gI_o8, gJ_o8, sI_o8, sJ_o8, lt_o8, oh_lt, om_lt])
set_option maxHeartbeats 100000 in
theorem o_X9_lettersOf (w : Int64) (p1 : Int64) (h : HD) : jX9_lettersOf p1 (o8 h w) = jX9_lettersOf p1 h := by
  unfold jX9_lettersOf
  generalize FU = N
  repeat' (first | with_reducible rfl |  intro _ | with_reducible apply lcg | with_reducible apply bcg | with_reducible apply icg | simp only [oh_bind, om_bind, bind_oh, bind_om, oh_some, om_some, oh_none, om_none, oh_ite, om_ite, gI_o8, gJ_o8, sI_o8, sJ_o8, lt_o8, oh_lt, om_lt, o_X9_lettersOf_L4])
set_option maxHeartbeats 100000 in
theorem o_X9_letterOf (w : Int64) (p1 : Int64) (p2 : Int32) (h : HD) : jX9_letterOf p1 p2 (o8 h w) = jX9_letterOf p1 p2 h := by
  unfold jX9_letterOf
  repeat' (first | with_reducible rfl |  intro _ | with_reducible apply lcg | with_reducible apply bcg | with_reducible apply icg | simp only [oh_bind, om_bind, bind_oh, bind_om, oh_some, om_some, oh_none, om_none, oh_ite, om_ite, gI_o8, gJ_o8, sI_o8, sJ_o8, lt_o8, oh_lt, om_lt, o_X9_lettersOf])
set_option maxHeartbeats 100000 in
theorem o_X9_letter (w : Int64) (p1 : Int32) (p2 : Int32) (h : HD) : jX9_letter p1 p2 (o8 h w) = om w (jX9_letter p1 p2 h) := by
  unfold jX9_letter
  repeat' (first | with_reducible rfl |  intro _ | with_reducible apply lcg | with_reducible apply bcg | with_reducible apply icg | simp only [oh_bind, om_bind, bind_oh, bind_om, oh_some, om_some, oh_none, om_none, oh_ite, om_ite, gI_o8, gJ_o8, sI_o8, sJ_o8, lt_o8, oh_lt, om_lt, o_X9_isIn, o_X9_goes, o_X9_isCar, o_X9_lettersOf, o_X9_letterOf])
set_option maxHeartbeats 100000 in
theorem o_X9_car (w : Int64) (p1 : Int32) (p2 : Int32) (h : HD) : jX9_car p1 p2 (o8 h w) = om w (jX9_car p1 p2 h) := by
  unfold jX9_car
  repeat' (first | with_reducible rfl |  intro _ | with_reducible apply lcg | with_reducible apply bcg | with_reducible apply icg | simp only [oh_bind, om_bind, bind_oh, bind_om, oh_some, om_some, oh_none, om_none, oh_ite, om_ite, gI_o8, gJ_o8, sI_o8, sJ_o8, lt_o8, oh_lt, om_lt, o_X9_isIn, o_X9_truth, o_X9_goesBoth, o_X9_wishOf, o_X9_isCar, o_X9_parks, o_X9_turnNow, o_X9_turnedWish, o_X9_runOf])
set_option maxHeartbeats 100000 in
theorem o_X9_who (w : Int64) (p1 : Int32) (h : HD) : jX9_who p1 (o8 h w) = om w (jX9_who p1 h) := by
  unfold jX9_who
  repeat' (first | with_reducible rfl |  intro _ | with_reducible apply lcg | with_reducible apply bcg | with_reducible apply icg | simp only [oh_bind, om_bind, bind_oh, bind_om, oh_some, om_some, oh_none, om_none, oh_ite, om_ite, gI_o8, gJ_o8, sI_o8, sJ_o8, lt_o8, oh_lt, om_lt, o_X9_goes, o_X9_isSpot, o_X9_parks])
set_option maxHeartbeats 100000 in
theorem o_X9_wanted (w : Int64) (p1 : Int32) (h : HD) : jX9_wanted p1 (o8 h w) = om w (jX9_wanted p1 h) := by
  unfold jX9_wanted
  repeat' (first | with_reducible rfl |  intro _ | with_reducible apply lcg | with_reducible apply bcg | with_reducible apply icg | simp only [oh_bind, om_bind, bind_oh, bind_om, oh_some, om_some, oh_none, om_none, oh_ite, om_ite, gI_o8, gJ_o8, sI_o8, sJ_o8, lt_o8, oh_lt, om_lt, o_X9_goes, o_X9_isSpot, o_X9_wants])
set_option maxHeartbeats 100000 in
theorem o_X9_rankOf_L4 (w : Int64) (p1 : Int32) (h : HD) : ∀ (n : Nat) (y1 : Int32) (y2 : Int32), jX9_rankOf_L4 p1 (o8 h w) n y1 y2 = jX9_rankOf_L4 p1 h n y1 y2 := by
  intro n
  induction n with
  | zero => intros; rfl
  | succ n ih =>
    intro y1 y2
    simp only [jX9_rankOf_L4]
    repeat' (first | with_reducible rfl | with_reducible apply ih |  intro _ | with_reducible apply lcg | with_reducible apply bcg | with_reducible apply icg | simp only [oh_bind, om_bind, bind_oh, bind_om, oh_some, om_some, oh_none, om_none, oh_ite, om_ite, gI_o8, gJ_o8, sI_o8, sJ_o8, lt_o8, oh_lt, om_lt, o_X9_truth, o_X9_wishOf])
set_option maxHeartbeats 100000 in
theorem o_X9_rankOf (w : Int64) (p1 : Int32) (h : HD) : jX9_rankOf p1 (o8 h w) = jX9_rankOf p1 h := by
  unfold jX9_rankOf
  generalize FU = N
  repeat' (first | with_reducible rfl |  intro _ | with_reducible apply lcg | with_reducible apply bcg | with_reducible apply icg | simp only [oh_bind, om_bind, bind_oh, bind_om, oh_some, om_some, oh_none, om_none, oh_ite, om_ite, gI_o8, gJ_o8, sI_o8, sJ_o8, lt_o8, oh_lt, om_lt, o_X9_rankOf_L4])
set_option maxHeartbeats 100000 in
theorem o_X9_spotByLine (w : Int64) (p1 : Int32) (h : HD) : jX9_spotByLine p1 (o8 h w) = om w (jX9_spotByLine p1 h) := by
  unfold jX9_spotByLine
  repeat' (first | with_reducible rfl |  intro _ | with_reducible apply lcg | with_reducible apply bcg | with_reducible apply icg | simp only [oh_bind, om_bind, bind_oh, bind_om, oh_some, om_some, oh_none, om_none, oh_ite, om_ite, gI_o8, gJ_o8, sI_o8, sJ_o8, lt_o8, oh_lt, om_lt, o_X9_goes, o_X9_isCar, o_X9_parksByLine])
set_option maxHeartbeats 100000 in
theorem o_X9_areCars (w : Int64) (p1 : Int32) (h : HD) : jX9_areCars p1 (o8 h w) = jX9_areCars p1 h := by
  unfold jX9_areCars
  repeat' (first | with_reducible rfl |  intro _ | with_reducible apply lcg | with_reducible apply bcg | with_reducible apply icg | simp only [oh_bind, om_bind, bind_oh, bind_om, oh_some, om_some, oh_none, om_none, oh_ite, om_ite, gI_o8, gJ_o8, sI_o8, sJ_o8, lt_o8, oh_lt, om_lt, o_X9_isIn])
set_option maxHeartbeats 100000 in
theorem o_X9_whoAfter (w : Int64) (p1 : Int32) (p2 : Int32) (h : HD) : jX9_whoAfter p1 p2 (o8 h w) = om w (jX9_whoAfter p1 p2 h) := by
  unfold jX9_whoAfter
  repeat' (first | with_reducible rfl |  intro _ | with_reducible apply lcg | with_reducible apply bcg | with_reducible apply icg | simp only [oh_bind, om_bind, bind_oh, bind_om, oh_some, om_some, oh_none, om_none, oh_ite, om_ite, gI_o8, gJ_o8, sI_o8, sJ_o8, lt_o8, oh_lt, om_lt, o_X9_goesBoth, o_X9_isSpot, o_X9_parks, o_X9_areCars])
set_option maxHeartbeats 100000 in
theorem o_X9_rowFrom_L2 (w : Int64) (p1 : Int32) (h : HD) : ∀ (n : Nat) (y1 : Int32), jX9_rowFrom_L2 p1 (o8 h w) n y1 = jX9_rowFrom_L2 p1 h n y1 := by
  intro n
  induction n with
  | zero => intros; rfl
  | succ n ih =>
    intro y1
    simp only [jX9_rowFrom_L2]
    repeat' (first | with_reducible rfl | with_reducible apply ih |  intro _ | with_reducible apply lcg | with_reducible apply bcg | with_reducible apply icg | simp only [oh_bind, om_bind, bind_oh, bind_om, oh_some, om_some, oh_none, om_none, oh_ite, om_ite, gI_o8, gJ_o8, sI_o8, sJ_o8, lt_o8, oh_lt, om_lt, o_X9_spots, o_X9_round])
set_option maxHeartbeats 100000 in
theorem o_X9_rowFrom (w : Int64) (p1 : Int32) (h : HD) : jX9_rowFrom p1 (o8 h w) = jX9_rowFrom p1 h := by
  unfold jX9_rowFrom
  generalize FU = N
  repeat' (first | with_reducible rfl |  intro _ | with_reducible apply lcg | with_reducible apply bcg | with_reducible apply icg | simp only [oh_bind, om_bind, bind_oh, bind_om, oh_some, om_some, oh_none, om_none, oh_ite, om_ite, gI_o8, gJ_o8, sI_o8, sJ_o8, lt_o8, oh_lt, om_lt, o_X9_rowFrom_L2])
set_option maxHeartbeats 100000 in
theorem o_X9_longestAfter_L23 (w : Int64) (p1 : Int32) (h : HD) : ∀ (n : Nat) (y1 : Int32) (y2 : Int32), jX9_longestAfter_L23 p1 (o8 h w) n y1 y2 = om w (jX9_longestAfter_L23 p1 h n y1 y2) := by
  intro n
  induction n with
  | zero => intros; rfl
  | succ n ih =>
    intro y1 y2
    simp only [jX9_longestAfter_L23]
    repeat' (first | with_reducible rfl | with_reducible apply ih |  intro _ | with_reducible apply lcg | with_reducible apply bcg | with_reducible apply icg | simp only [oh_bind, om_bind, bind_oh, bind_om, oh_some, om_some, oh_none, om_none, oh_ite, om_ite, gI_o8, gJ_o8, sI_o8, sJ_o8, lt_o8, oh_lt, om_lt, o_X9_spots, o_X9_rowFrom])
set_option maxHeartbeats 100000 in
theorem o_X9_longestAfter (w : Int64) (p1 : Int32) (h : HD) : jX9_longestAfter p1 (o8 h w) = om w (jX9_longestAfter p1 h) := by
  unfold jX9_longestAfter
  generalize FU = N
  repeat' (first | with_reducible rfl |  intro _ | with_reducible apply lcg | with_reducible apply bcg | with_reducible apply icg | simp only [oh_bind, om_bind, bind_oh, bind_om, oh_some, om_some, oh_none, om_none, oh_ite, om_ite, gI_o8, gJ_o8, sI_o8, sJ_o8, lt_o8, oh_lt, om_lt, o_X9_goes, o_X9_parks, o_X9_areCars, o_X9_longestAfter_L23])
set_option maxHeartbeats 100000 in
theorem o_X9_inWay (w : Int64) (p1 : Int32) (h : HD) : jX9_inWay p1 (o8 h w) = om w (jX9_inWay p1 h) := by
  unfold jX9_inWay
  repeat' (first | with_reducible rfl |  intro _ | with_reducible apply lcg | with_reducible apply bcg | with_reducible apply icg | simp only [oh_bind, om_bind, bind_oh, bind_om, oh_some, om_some, oh_none, om_none, oh_ite, om_ite, gI_o8, gJ_o8, sI_o8, sJ_o8, lt_o8, oh_lt, om_lt, o_X9_goes, o_X9_wishOf, o_X9_parks, o_X9_areCars])
set_option maxHeartbeats 100000 in
theorem o_X9_codes (w : Int64) (h : HD) : jX9_codes (o8 h w) = jX9_codes h := by
  unfold jX9_codes
  repeat' (first | with_reducible rfl |  intro _ | with_reducible apply lcg | with_reducible apply bcg | with_reducible apply icg | simp only [oh_bind, om_bind, bind_oh, bind_om, oh_some, om_some, oh_none, om_none, oh_ite, om_ite, gI_o8, gJ_o8, sI_o8, sJ_o8, lt_o8, oh_lt, om_lt])
set_option maxHeartbeats 100000 in
theorem o_X9_codeAt (w : Int64) (p1 : Int32) (h : HD) : jX9_codeAt p1 (o8 h w) = jX9_codeAt p1 h := by
  unfold jX9_codeAt
  repeat' (first | with_reducible rfl |  intro _ | with_reducible apply lcg | with_reducible apply bcg | with_reducible apply icg | simp only [oh_bind, om_bind, bind_oh, bind_om, oh_some, om_some, oh_none, om_none, oh_ite, om_ite, gI_o8, gJ_o8, sI_o8, sJ_o8, lt_o8, oh_lt, om_lt, o_X9_wishOf, o_X9_round])
set_option maxHeartbeats 100000 in
theorem o_X9_joins (w : Int64) (p1 : Int32) (p2 : Int32) (h : HD) : jX9_joins p1 p2 (o8 h w) = oh w (jX9_joins p1 p2 h) := by
  unfold jX9_joins
  repeat' (first | with_reducible rfl |  intro _ | with_reducible apply lcg | with_reducible apply bcg | with_reducible apply icg | simp only [oh_bind, om_bind, bind_oh, bind_om, oh_some, om_some, oh_none, om_none, oh_ite, om_ite, gI_o8, gJ_o8, sI_o8, sJ_o8, lt_o8, oh_lt, om_lt, o_X9_lesser])
set_option maxHeartbeats 100000 in
theorem o_X9_leastLeaf_L2 (w : Int64) (h : HD) : ∀ (n : Nat) (y1 : Int32), jX9_leastLeaf_L2 (o8 h w) n y1 = jX9_leastLeaf_L2 h n y1 := by
  intro n
  induction n with
  | zero => intros; rfl
  | succ n ih =>
    intro y1
    simp only [jX9_leastLeaf_L2]
    repeat' (first | with_reducible rfl | with_reducible apply ih |  intro _ | with_reducible apply lcg | with_reducible apply bcg | with_reducible apply icg | simp only [oh_bind, om_bind, bind_oh, bind_om, oh_some, om_some, oh_none, om_none, oh_ite, om_ite, gI_o8, gJ_o8, sI_o8, sJ_o8, lt_o8, oh_lt, om_lt, o_X9_spots])
set_option maxHeartbeats 100000 in
theorem o_X9_leastLeaf (w : Int64) (h : HD) : jX9_leastLeaf (o8 h w) = jX9_leastLeaf h := by
  unfold jX9_leastLeaf
  generalize FU = N
  repeat' (first | with_reducible rfl |  intro _ | with_reducible apply lcg | with_reducible apply bcg | with_reducible apply icg | simp only [oh_bind, om_bind, bind_oh, bind_om, oh_some, om_some, oh_none, om_none, oh_ite, om_ite, gI_o8, gJ_o8, sI_o8, sJ_o8, lt_o8, oh_lt, om_lt, o_X9_leastLeaf_L2])
set_option maxHeartbeats 100000 in
theorem o_X9_grows_L7 (w : Int64) (k35 : HD → Option HD) (hk35 : ∀ (h : HD), k35 (o8 h w) = oh w (k35 h)) : ∀ (n : Nat) (y1 : Int32) (h : HD), jX9_grows_L7 k35 n y1 (o8 h w) = oh w (jX9_grows_L7 k35 n y1 h) := by
  intro n
  induction n with
  | zero => intros; rfl
  | succ n ih =>
    intro y1 h
    simp only [jX9_grows_L7]
    repeat' (first | with_reducible rfl | with_reducible apply ih | with_reducible apply hk35 |  intro _ | with_reducible apply lcg | with_reducible apply bcg | with_reducible apply icg | simp only [oh_bind, om_bind, bind_oh, bind_om, oh_some, om_some, oh_none, om_none, oh_ite, om_ite, gI_o8, gJ_o8, sI_o8, sJ_o8, lt_o8, oh_lt, om_lt, o_X9_spots])
set_option maxHeartbeats 100000 in
theorem o_X9_grows_L37 (w : Int64) (k65 : HD → Option HD) (hk65 : ∀ (h : HD), k65 (o8 h w) = oh w (k65 h)) : ∀ (n : Nat) (y1 : Int32) (h : HD), jX9_grows_L37 k65 n y1 (o8 h w) = oh w (jX9_grows_L37 k65 n y1 h) := by
  intro n
  induction n with
  | zero => intros; rfl
  | succ n ih =>
    intro y1 h
    simp only [jX9_grows_L37]
    repeat' (first | with_reducible rfl | with_reducible apply ih | with_reducible apply hk65 |  intro _ | with_reducible apply lcg | with_reducible apply bcg | with_reducible apply icg | simp only [oh_bind, om_bind, bind_oh, bind_om, oh_some, om_some, oh_none, om_none, oh_ite, om_ite, gI_o8, gJ_o8, sI_o8, sJ_o8, lt_o8, oh_lt, om_lt, o_X9_codes, o_X9_codeAt])
set_option maxHeartbeats 100000 in
theorem o_X9_grows_L67 (w : Int64) (k117 : HD → Option HD) (hk117 : ∀ (h : HD), k117 (o8 h w) = oh w (k117 h)) : ∀ (n : Nat) (y1 : Int32) (h : HD), jX9_grows_L67 k117 n y1 (o8 h w) = oh w (jX9_grows_L67 k117 n y1 h) := by
  intro n
  induction n with
  | zero => intros; rfl
  | succ n ih =>
    intro y1 h
    simp only [jX9_grows_L67]
    repeat' (first | with_reducible rfl | with_reducible apply ih | with_reducible apply hk117 |  intro _ | with_reducible apply lcg | with_reducible apply bcg | with_reducible apply icg | simp only [oh_bind, om_bind, bind_oh, bind_om, oh_some, om_some, oh_none, om_none, oh_ite, om_ite, gI_o8, gJ_o8, sI_o8, sJ_o8, lt_o8, oh_lt, om_lt, o_X9_codes, o_X9_codeAt, o_X9_joins, o_X9_leastLeaf])
set_option maxHeartbeats 100000 in
theorem o_X9_grows (w : Int64) (h : HD) : jX9_grows (o8 h w) = oh w (jX9_grows h) := by
  unfold jX9_grows
  generalize FU = N
  repeat' (first | with_reducible rfl | with_reducible apply o_X9_grows_L7 | with_reducible apply o_X9_grows_L37 | with_reducible apply o_X9_grows_L67 |  intro _ | with_reducible apply lcg | with_reducible apply bcg | with_reducible apply icg | simp only [oh_bind, om_bind, bind_oh, bind_om, oh_some, om_some, oh_none, om_none, oh_ite, om_ite, gI_o8, gJ_o8, sI_o8, sJ_o8, lt_o8, oh_lt, om_lt, o_X9_joins, o_X9_leastLeaf])
set_option maxHeartbeats 100000 in
theorem o_X9_isAt (w : Int64) (p1 : Int32) (p2 : Int32) (h : HD) : jX9_isAt p1 p2 (o8 h w) = jX9_isAt p1 p2 h := by
  unfold jX9_isAt
  repeat' (first | with_reducible rfl |  intro _ | with_reducible apply lcg | with_reducible apply bcg | with_reducible apply icg | simp only [oh_bind, om_bind, bind_oh, bind_om, oh_some, om_some, oh_none, om_none, oh_ite, om_ite, gI_o8, gJ_o8, sI_o8, sJ_o8, lt_o8, oh_lt, om_lt])
set_option maxHeartbeats 100000 in
theorem o_X9_degreeOf_L4 (w : Int64) (p1 : Int32) (h : HD) : ∀ (n : Nat) (y1 : Int32) (y2 : Int32), jX9_degreeOf_L4 p1 (o8 h w) n y1 y2 = jX9_degreeOf_L4 p1 h n y1 y2 := by
  intro n
  induction n with
  | zero => intros; rfl
  | succ n ih =>
    intro y1 y2
    simp only [jX9_degreeOf_L4]
    repeat' (first | with_reducible rfl | with_reducible apply ih |  intro _ | with_reducible apply lcg | with_reducible apply bcg | with_reducible apply icg | simp only [oh_bind, om_bind, bind_oh, bind_om, oh_some, om_some, oh_none, om_none, oh_ite, om_ite, gI_o8, gJ_o8, sI_o8, sJ_o8, lt_o8, oh_lt, om_lt, o_X9_truth, o_X9_isAt])
set_option maxHeartbeats 100000 in
theorem o_X9_degreeOf (w : Int64) (p1 : Int32) (h : HD) : jX9_degreeOf p1 (o8 h w) = jX9_degreeOf p1 h := by
  unfold jX9_degreeOf
  generalize FU = N
  repeat' (first | with_reducible rfl |  intro _ | with_reducible apply lcg | with_reducible apply bcg | with_reducible apply icg | simp only [oh_bind, om_bind, bind_oh, bind_om, oh_some, om_some, oh_none, om_none, oh_ite, om_ite, gI_o8, gJ_o8, sI_o8, sJ_o8, lt_o8, oh_lt, om_lt, o_X9_degreeOf_L4])
set_option maxHeartbeats 100000 in
theorem o_X9_degree (w : Int64) (p1 : Int32) (h : HD) : jX9_degree p1 (o8 h w) = om w (jX9_degree p1 h) := by
  unfold jX9_degree
  repeat' (first | with_reducible rfl |  intro _ | with_reducible apply lcg | with_reducible apply bcg | with_reducible apply icg | simp only [oh_bind, om_bind, bind_oh, bind_om, oh_some, om_some, oh_none, om_none, oh_ite, om_ite, gI_o8, gJ_o8, sI_o8, sJ_o8, lt_o8, oh_lt, om_lt, o_X9_goes, o_X9_isSpot, o_X9_grows, o_X9_degreeOf])
set_option maxHeartbeats 100000 in
theorem o_X9_walks_L2 (w : Int64) (p1 : Int32) (k26 : HD → Option HD) (hk26 : ∀ (h : HD), k26 (o8 h w) = oh w (k26 h)) : ∀ (n : Nat) (y1 : Int32) (h : HD), jX9_walks_L2 p1 k26 n y1 (o8 h w) = oh w (jX9_walks_L2 p1 k26 n y1 h) := by
  intro n
  induction n with
  | zero => intros; rfl
  | succ n ih =>
    intro y1 h
    simp only [jX9_walks_L2]
    repeat' (first | with_reducible rfl | with_reducible apply ih | with_reducible apply hk26 |  intro _ | with_reducible apply lcg | with_reducible apply bcg | with_reducible apply icg | simp only [oh_bind, om_bind, bind_oh, bind_om, oh_some, om_some, oh_none, om_none, oh_ite, om_ite, gI_o8, gJ_o8, sI_o8, sJ_o8, lt_o8, oh_lt, om_lt, o_X9_spots])
set_option maxHeartbeats 100000 in
theorem o_X9_walks_L45 (w : Int64) (p1 : Int32) (x2 : Int32) (k135 : HD → Option HD) (hk135 : ∀ (h : HD), k135 (o8 h w) = oh w (k135 h)) : ∀ (n : Nat) (y1 : Int32) (h : HD), jX9_walks_L45 p1 x2 k135 n y1 (o8 h w) = oh w (jX9_walks_L45 p1 x2 k135 n y1 h) := by
  intro n
  induction n with
  | zero => intros; rfl
  | succ n ih =>
    intro y1 h
    simp only [jX9_walks_L45]
    repeat' (first | with_reducible rfl | with_reducible apply ih | with_reducible apply hk135 |  intro _ | with_reducible apply lcg | with_reducible apply bcg | with_reducible apply icg | simp only [oh_bind, om_bind, bind_oh, bind_om, oh_some, om_some, oh_none, om_none, oh_ite, om_ite, gI_o8, gJ_o8, sI_o8, sJ_o8, lt_o8, oh_lt, om_lt, o_X9_lesser])
set_option maxHeartbeats 100000 in
theorem o_X9_walks_L35 (w : Int64) (p1 : Int32) : ∀ (n : Nat) (y1 : Int32) (h : HD), jX9_walks_L35 p1 n y1 (o8 h w) = oh w (jX9_walks_L35 p1 n y1 h) := by
  intro n
  induction n with
  | zero => intros; rfl
  | succ n ih =>
    intro y1 h
    simp only [jX9_walks_L35]
    generalize FU = N
    repeat' (first | with_reducible rfl | with_reducible apply ih | with_reducible apply o_X9_walks_L45 |  intro _ | with_reducible apply lcg | with_reducible apply bcg | with_reducible apply icg | simp only [oh_bind, om_bind, bind_oh, bind_om, oh_some, om_some, oh_none, om_none, oh_ite, om_ite, gI_o8, gJ_o8, sI_o8, sJ_o8, lt_o8, oh_lt, om_lt, o_X9_spots])
set_option maxHeartbeats 100000 in
theorem o_X9_walks (w : Int64) (p1 : Int32) (h : HD) : jX9_walks p1 (o8 h w) = oh w (jX9_walks p1 h) := by
  unfold jX9_walks
  generalize FU = N
  repeat' (first | with_reducible rfl | with_reducible apply o_X9_walks_L2 |  intro _ | with_reducible apply lcg | with_reducible apply bcg | with_reducible apply icg | simp only [oh_bind, om_bind, bind_oh, bind_om, oh_some, om_some, oh_none, om_none, oh_ite, om_ite, gI_o8, gJ_o8, sI_o8, sJ_o8, lt_o8, oh_lt, om_lt, o_X9_walks_L35])
set_option maxHeartbeats 100000 in
theorem o_X9_far (w : Int64) (p1 : Int32) (p2 : Int32) (h : HD) : jX9_far p1 p2 (o8 h w) = om w (jX9_far p1 p2 h) := by
  unfold jX9_far
  repeat' (first | with_reducible rfl |  intro _ | with_reducible apply lcg | with_reducible apply bcg | with_reducible apply icg | simp only [oh_bind, om_bind, bind_oh, bind_om, oh_some, om_some, oh_none, om_none, oh_ite, om_ite, gI_o8, gJ_o8, sI_o8, sJ_o8, lt_o8, oh_lt, om_lt, o_X9_goes, o_X9_isSpot, o_X9_grows, o_X9_walks])
set_option maxHeartbeats 100000 in
theorem o_X9_spotIf (w : Int64) (p1 : Int32) (p2 : Int32) (h : HD) : jX9_spotIf p1 p2 (o8 h w) = om w (jX9_spotIf p1 p2 h) := by
  unfold jX9_spotIf
  repeat' (first | with_reducible rfl |  intro _ | with_reducible apply lcg | with_reducible apply bcg | with_reducible apply icg | simp only [oh_bind, om_bind, bind_oh, bind_om, oh_some, om_some, oh_none, om_none, oh_ite, om_ite, gI_o8, gJ_o8, sI_o8, sJ_o8, lt_o8, oh_lt, om_lt, o_X9_goesBoth, o_X9_laysAway, o_X9_fromAway, o_X9_isCar, o_X9_isSpot, o_X9_parks])
set_option maxHeartbeats 100000 in
theorem o_X9_settingIf (w : Int64) (p1 : Int32) (p2 : Int32) (p3 : Int32) (h : HD) : jX9_settingIf p1 p2 p3 (o8 h w) = om w (jX9_settingIf p1 p2 p3 h) := by
  unfold jX9_settingIf
  repeat' (first | with_reducible rfl |  intro _ | with_reducible apply lcg | with_reducible apply bcg | with_reducible apply icg | simp only [oh_bind, om_bind, bind_oh, bind_om, oh_some, om_some, oh_none, om_none, oh_ite, om_ite, gI_o8, gJ_o8, sI_o8, sJ_o8, lt_o8, oh_lt, om_lt, o_X9_goesBoth, o_X9_laysAway, o_X9_fromAway, o_X9_isCar, o_X9_isSpot, o_X9_settingOf, o_X9_isSetting])
set_option maxHeartbeats 100000 in
theorem o_X9_bestFor_L25 (w : Int64) (p1 : Int32) (k72 : Int32 → HD → Option (Int32 × HD)) (hk72 : ∀ (z0 : Int32) (h : HD), k72 z0 (o8 h w) = om w (k72 z0 h)) : ∀ (n : Nat) (y1 : Int32) (y2 : Int32) (y3 : Int32) (h : HD), jX9_bestFor_L25 p1 k72 n y1 y2 y3 (o8 h w) = om w (jX9_bestFor_L25 p1 k72 n y1 y2 y3 h) := by
  intro n
  induction n with
  | zero => intros; rfl
  | succ n ih =>
    intro y1 y2 y3 h
    simp only [jX9_bestFor_L25]
    repeat' (first | with_reducible rfl | with_reducible apply ih | with_reducible apply hk72 |  intro _ | with_reducible apply lcg | with_reducible apply bcg | with_reducible apply icg | simp only [oh_bind, om_bind, bind_oh, bind_om, oh_some, om_some, oh_none, om_none, oh_ite, om_ite, gI_o8, gJ_o8, sI_o8, sJ_o8, lt_o8, oh_lt, om_lt, o_X9_spots, o_X9_settingOf])
set_option maxHeartbeats 100000 in
theorem o_X9_bestFor (w : Int64) (p1 : Int32) (h : HD) : jX9_bestFor p1 (o8 h w) = om w (jX9_bestFor p1 h) := by
  unfold jX9_bestFor
  generalize FU = N
  repeat' (first | with_reducible rfl | with_reducible apply o_X9_bestFor_L25 |  intro _ | with_reducible apply lcg | with_reducible apply bcg | with_reducible apply icg | simp only [oh_bind, om_bind, bind_oh, bind_om, oh_some, om_some, oh_none, om_none, oh_ite, om_ite, gI_o8, gJ_o8, sI_o8, sJ_o8, lt_o8, oh_lt, om_lt, o_X9_goes, o_X9_laysAway, o_X9_fromAway, o_X9_isCar])
set_option maxHeartbeats 100000 in
theorem o_X9_changesPlaces (w : Int64) (p1 : Int32) (p2 : Int32) (h : HD) : jX9_changesPlaces p1 p2 (o8 h w) = oh w (jX9_changesPlaces p1 p2 h) := by
  unfold jX9_changesPlaces
  repeat' (first | with_reducible rfl |  intro _ | with_reducible apply lcg | with_reducible apply bcg | with_reducible apply icg | simp only [oh_bind, om_bind, bind_oh, bind_om, oh_some, om_some, oh_none, om_none, oh_ite, om_ite, gI_o8, gJ_o8, sI_o8, sJ_o8, lt_o8, oh_lt, om_lt, o_X9_wishOf])
set_option maxHeartbeats 100000 in
theorem o_X9_placesAt_L2 (w : Int64) (p1 : Int32) (p2 : Int32) (k21 : HD → Option HD) (hk21 : ∀ (h : HD), k21 (o8 h w) = oh w (k21 h)) : ∀ (n : Nat) (y1 : Int32) (h : HD), jX9_placesAt_L2 p1 p2 k21 n y1 (o8 h w) = oh w (jX9_placesAt_L2 p1 p2 k21 n y1 h) := by
  intro n
  induction n with
  | zero => intros; rfl
  | succ n ih =>
    intro y1 h
    simp only [jX9_placesAt_L2]
    repeat' (first | with_reducible rfl | with_reducible apply ih | with_reducible apply hk21 |  intro _ | with_reducible apply lcg | with_reducible apply bcg | with_reducible apply icg | simp only [oh_bind, om_bind, bind_oh, bind_om, oh_some, om_some, oh_none, om_none, oh_ite, om_ite, gI_o8, gJ_o8, sI_o8, sJ_o8, lt_o8, oh_lt, om_lt, o_X9_changesPlaces])
set_option maxHeartbeats 100000 in
theorem o_X9_placesAt_L23 (w : Int64) (p1 : Int32) (p2 : Int32) : ∀ (n : Nat) (y1 : Int32) (h : HD), jX9_placesAt_L23 p1 p2 n y1 (o8 h w) = oh w (jX9_placesAt_L23 p1 p2 n y1 h) := by
  intro n
  induction n with
  | zero => intros; rfl
  | succ n ih =>
    intro y1 h
    simp only [jX9_placesAt_L23]
    repeat' (first | with_reducible rfl | with_reducible apply ih |  intro _ | with_reducible apply lcg | with_reducible apply bcg | with_reducible apply icg | simp only [oh_bind, om_bind, bind_oh, bind_om, oh_some, om_some, oh_none, om_none, oh_ite, om_ite, gI_o8, gJ_o8, sI_o8, sJ_o8, lt_o8, oh_lt, om_lt, o_X9_changesPlaces])
set_option maxHeartbeats 100000 in
theorem o_X9_placesAt (w : Int64) (p1 : Int32) (p2 : Int32) (h : HD) : jX9_placesAt p1 p2 (o8 h w) = oh w (jX9_placesAt p1 p2 h) := by
  unfold jX9_placesAt
  generalize FU = N
  repeat' (first | with_reducible rfl | with_reducible apply o_X9_placesAt_L2 |  intro _ | with_reducible apply lcg | with_reducible apply bcg | with_reducible apply icg | simp only [oh_bind, om_bind, bind_oh, bind_om, oh_some, om_some, oh_none, om_none, oh_ite, om_ite, gI_o8, gJ_o8, sI_o8, sJ_o8, lt_o8, oh_lt, om_lt, o_X9_placesAt_L23])
set_option maxHeartbeats 100000 in
theorem o_X9_latest_L18 (w : Int64) (p1 : Int32) : ∀ (n : Nat) (y1 : Int32) (y2 : Int32) (h : HD), jX9_latest_L18 p1 n y1 y2 (o8 h w) = om w (jX9_latest_L18 p1 n y1 y2 h) := by
  intro n
  induction n with
  | zero => intros; rfl
  | succ n ih =>
    intro y1 y2 h
    simp only [jX9_latest_L18]
    repeat' (first | with_reducible rfl | with_reducible apply ih |  intro _ | with_reducible apply lcg | with_reducible apply bcg | with_reducible apply icg | simp only [oh_bind, om_bind, bind_oh, bind_om, oh_some, om_some, oh_none, om_none, oh_ite, om_ite, gI_o8, gJ_o8, sI_o8, sJ_o8, lt_o8, oh_lt, om_lt, o_X9_laysAway, o_X9_fromAway, o_X9_parks, o_X9_placesAt])
set_option maxHeartbeats 100000 in
theorem o_X9_latest (w : Int64) (p1 : Int32) (h : HD) : jX9_latest p1 (o8 h w) = om w (jX9_latest p1 h) := by
  unfold jX9_latest
  generalize FU = N
  repeat' (first | with_reducible rfl |  intro _ | with_reducible apply lcg | with_reducible apply bcg | with_reducible apply icg | simp only [oh_bind, om_bind, bind_oh, bind_om, oh_some, om_some, oh_none, om_none, oh_ite, om_ite, gI_o8, gJ_o8, sI_o8, sJ_o8, lt_o8, oh_lt, om_lt, o_X9_goes, o_X9_isCar, o_X9_latest_L18])
set_option maxHeartbeats 100000 in
theorem o_X9_wayWith (w : Int64) (p1 : Int32) (h : HD) : jX9_wayWith p1 (o8 h w) = om w (jX9_wayWith p1 h) := by
  unfold jX9_wayWith
  repeat' (first | with_reducible rfl |  intro _ | with_reducible apply lcg | with_reducible apply bcg | with_reducible apply icg | simp only [oh_bind, om_bind, bind_oh, bind_om, oh_some, om_some, oh_none, om_none, oh_ite, om_ite, gI_o8, gJ_o8, sI_o8, sJ_o8, lt_o8, oh_lt, om_lt, o_X9_laysAway, o_X9_fromAway, o_X9_parks, o_X9_way])
set_option maxHeartbeats 100000 in
theorem o_X9_isBack (w : Int64) (p1 : Int32) (h : HD) : jX9_isBack p1 (o8 h w) = jX9_isBack p1 h := by
  unfold jX9_isBack
  repeat' (first | with_reducible rfl |  intro _ | with_reducible apply lcg | with_reducible apply bcg | with_reducible apply icg | simp only [oh_bind, om_bind, bind_oh, bind_om, oh_some, om_some, oh_none, om_none, oh_ite, om_ite, gI_o8, gJ_o8, sI_o8, sJ_o8, lt_o8, oh_lt, om_lt, o_X9_isIn])
set_option maxHeartbeats 100000 in
theorem o_X9_wayBy (w : Int64) (p1 : Int32) (h : HD) : jX9_wayBy p1 (o8 h w) = om w (jX9_wayBy p1 h) := by
  unfold jX9_wayBy
  repeat' (first | with_reducible rfl |  intro _ | with_reducible apply lcg | with_reducible apply bcg | with_reducible apply icg | simp only [oh_bind, om_bind, bind_oh, bind_om, oh_some, om_some, oh_none, om_none, oh_ite, om_ite, gI_o8, gJ_o8, sI_o8, sJ_o8, lt_o8, oh_lt, om_lt, o_X9_goes, o_X9_wayWith, o_X9_isBack])
set_option maxHeartbeats 100000 in
theorem o_X9_wishes (w : Int64) (p1 : Int32) (p2 : Int32) (h : HD) : jX9_wishes p1 p2 (o8 h w) = om w (jX9_wishes p1 p2 h) := by
  unfold jX9_wishes
  repeat' (first | with_reducible rfl |  intro _ | with_reducible apply lcg | with_reducible apply bcg | with_reducible apply icg | simp only [oh_bind, om_bind, bind_oh, bind_om, oh_some, om_some, oh_none, om_none, oh_ite, om_ite, gI_o8, gJ_o8, sI_o8, sJ_o8, lt_o8, oh_lt, om_lt, o_X9_acted, o_X9_wishOf])
set_option maxHeartbeats 100000 in
theorem o_X9_prefer (w : Int64) (p1 : Int32) (p2 : Int32) (h : HD) : jX9_prefer p1 p2 (o8 h w) = om w (jX9_prefer p1 p2 h) := by
  unfold jX9_prefer
  repeat' (first | with_reducible rfl |  intro _ | with_reducible apply lcg | with_reducible apply bcg | with_reducible apply icg | simp only [oh_bind, om_bind, bind_oh, bind_om, oh_some, om_some, oh_none, om_none, oh_ite, om_ite, gI_o8, gJ_o8, sI_o8, sJ_o8, lt_o8, oh_lt, om_lt, o_X9_goesBoth, o_X9_laysAside, o_X9_kept, o_X9_isCar, o_X9_isSpot, o_X9_wishes])
set_option maxHeartbeats 100000 in
theorem o_X9_whyNoSwap (w : Int64) (p1 : Int32) (h : HD) : jX9_whyNoSwap p1 (o8 h w) = jX9_whyNoSwap p1 h := by
  unfold jX9_whyNoSwap
  repeat' (first | with_reducible rfl |  intro _ | with_reducible apply lcg | with_reducible apply bcg | with_reducible apply icg | simp only [oh_bind, om_bind, bind_oh, bind_om, oh_some, om_some, oh_none, om_none, oh_ite, om_ite, gI_o8, gJ_o8, sI_o8, sJ_o8, lt_o8, oh_lt, om_lt])
set_option maxHeartbeats 100000 in
theorem o_X9_swaps (w : Int64) (p1 : Int32) (h : HD) : jX9_swaps p1 (o8 h w) = om w (jX9_swaps p1 h) := by
  unfold jX9_swaps
  repeat' (first | with_reducible rfl |  intro _ | with_reducible apply lcg | with_reducible apply bcg | with_reducible apply icg | simp only [oh_bind, om_bind, bind_oh, bind_om, oh_some, om_some, oh_none, om_none, oh_ite, om_ite, gI_o8, gJ_o8, sI_o8, sJ_o8, lt_o8, oh_lt, om_lt, o_X9_acted, o_X9_changesPlaces])
set_option maxHeartbeats 100000 in
theorem o_X9_swap (w : Int64) (p1 : Int32) (h : HD) : jX9_swap p1 (o8 h w) = om w (jX9_swap p1 h) := by
  unfold jX9_swap
  repeat' (first | with_reducible rfl |  intro _ | with_reducible apply lcg | with_reducible apply bcg | with_reducible apply icg | simp only [oh_bind, om_bind, bind_oh, bind_om, oh_some, om_some, oh_none, om_none, oh_ite, om_ite, gI_o8, gJ_o8, sI_o8, sJ_o8, lt_o8, oh_lt, om_lt, o_X9_goes, o_X9_laysAside, o_X9_kept, o_X9_refused, o_X9_isCar, o_X9_whyNoSwap, o_X9_swaps])
set_option maxHeartbeats 100000 in
theorem o_X9_turns_L2 (w : Int64) (p1 : Int32) (k37 : HD → Option (Int32 × HD)) (hk37 : ∀ (h : HD), k37 (o8 h w) = om w (k37 h)) : ∀ (n : Nat) (y1 : Int32) (h : HD), jX9_turns_L2 p1 k37 n y1 (o8 h w) = om w (jX9_turns_L2 p1 k37 n y1 h) := by
  intro n
  induction n with
  | zero => intros; rfl
  | succ n ih =>
    intro y1 h
    simp only [jX9_turns_L2]
    repeat' (first | with_reducible rfl | with_reducible apply ih | with_reducible apply hk37 |  intro _ | with_reducible apply lcg | with_reducible apply bcg | with_reducible apply icg | simp only [oh_bind, om_bind, bind_oh, bind_om, oh_some, om_some, oh_none, om_none, oh_ite, om_ite, gI_o8, gJ_o8, sI_o8, sJ_o8, lt_o8, oh_lt, om_lt, o_X9_wishOf, o_X9_round])
set_option maxHeartbeats 100000 in
theorem o_X9_turns (w : Int64) (p1 : Int32) (h : HD) : jX9_turns p1 (o8 h w) = om w (jX9_turns p1 h) := by
  unfold jX9_turns
  generalize FU = N
  repeat' (first | with_reducible rfl | with_reducible apply o_X9_turns_L2 |  intro _ | with_reducible apply lcg | with_reducible apply bcg | with_reducible apply icg | simp only [oh_bind, om_bind, bind_oh, bind_om, oh_some, om_some, oh_none, om_none, oh_ite, om_ite, gI_o8, gJ_o8, sI_o8, sJ_o8, lt_o8, oh_lt, om_lt, o_X9_acted, o_X9_settingOf])
set_option maxHeartbeats 100000 in
theorem o_X9_isTurn (w : Int64) (p1 : Int32) (h : HD) : jX9_isTurn p1 (o8 h w) = jX9_isTurn p1 h := by
  unfold jX9_isTurn
  repeat' (first | with_reducible rfl |  intro _ | with_reducible apply lcg | with_reducible apply bcg | with_reducible apply icg | simp only [oh_bind, om_bind, bind_oh, bind_om, oh_some, om_some, oh_none, om_none, oh_ite, om_ite, gI_o8, gJ_o8, sI_o8, sJ_o8, lt_o8, oh_lt, om_lt, o_X9_isIn])
set_option maxHeartbeats 100000 in
theorem o_X9_turn (w : Int64) (p1 : Int32) (h : HD) : jX9_turn p1 (o8 h w) = om w (jX9_turn p1 h) := by
  unfold jX9_turn
  repeat' (first | with_reducible rfl |  intro _ | with_reducible apply lcg | with_reducible apply bcg | with_reducible apply icg | simp only [oh_bind, om_bind, bind_oh, bind_om, oh_some, om_some, oh_none, om_none, oh_ite, om_ite, gI_o8, gJ_o8, sI_o8, sJ_o8, lt_o8, oh_lt, om_lt, o_X9_goes, o_X9_laysAside, o_X9_kept, o_X9_turns, o_X9_isTurn])
set_option maxHeartbeats 100000 in
theorem o_X9_looksBack (w : Int64) (p1 : Int32) (h : HD) : jX9_looksBack p1 (o8 h w) = om w (jX9_looksBack p1 h) := by
  unfold jX9_looksBack
  repeat' (first | with_reducible rfl |  intro _ | with_reducible apply lcg | with_reducible apply bcg | with_reducible apply icg | simp only [oh_bind, om_bind, bind_oh, bind_om, oh_some, om_some, oh_none, om_none, oh_ite, om_ite, gI_o8, gJ_o8, sI_o8, sJ_o8, lt_o8, oh_lt, om_lt, o_X9_acted])
set_option maxHeartbeats 100000 in
theorem o_X9_setBack (w : Int64) (p1 : Int32) (h : HD) : jX9_setBack p1 (o8 h w) = om w (jX9_setBack p1 h) := by
  unfold jX9_setBack
  repeat' (first | with_reducible rfl |  intro _ | with_reducible apply lcg | with_reducible apply bcg | with_reducible apply icg | simp only [oh_bind, om_bind, bind_oh, bind_om, oh_some, om_some, oh_none, om_none, oh_ite, om_ite, gI_o8, gJ_o8, sI_o8, sJ_o8, lt_o8, oh_lt, om_lt, o_X9_goes, o_X9_laysAside, o_X9_kept, o_X9_isBack, o_X9_looksBack])
set_option maxHeartbeats 100000 in
theorem o_X9_mayCome (w : Int64) (p1 : Int32) (h : HD) : jX9_mayCome p1 (o8 h w) = jX9_mayCome p1 h := by
  unfold jX9_mayCome
  repeat' (first | with_reducible rfl |  intro _ | with_reducible apply lcg | with_reducible apply bcg | with_reducible apply icg | simp only [oh_bind, om_bind, bind_oh, bind_om, oh_some, om_some, oh_none, om_none, oh_ite, om_ite, gI_o8, gJ_o8, sI_o8, sJ_o8, lt_o8, oh_lt, om_lt, o_X9_isIn])
set_option maxHeartbeats 100000 in
theorem o_X9_whyNoCar (w : Int64) (p1 : Int64) (h : HD) : jX9_whyNoCar p1 (o8 h w) = jX9_whyNoCar p1 h := by
  unfold jX9_whyNoCar
  repeat' (first | with_reducible rfl |  intro _ | with_reducible apply lcg | with_reducible apply bcg | with_reducible apply icg | simp only [oh_bind, om_bind, bind_oh, bind_om, oh_some, om_some, oh_none, om_none, oh_ite, om_ite, gI_o8, gJ_o8, sI_o8, sJ_o8, lt_o8, oh_lt, om_lt, o_X9_carNamed])
set_option maxHeartbeats 100000 in
theorem o_X9_comes (w : Int64) (p1 : Int64) (p2 : Int32) (h : HD) : jX9_comes p1 p2 (o8 h w) = om w (jX9_comes p1 p2 h) := by
  unfold jX9_comes
  repeat' (first | with_reducible rfl |  intro _ | with_reducible apply lcg | with_reducible apply bcg | with_reducible apply icg | simp only [oh_bind, om_bind, bind_oh, bind_om, oh_some, om_some, oh_none, om_none, oh_ite, om_ite, gI_o8, gJ_o8, sI_o8, sJ_o8, lt_o8, oh_lt, om_lt, o_X9_acted])
set_option maxHeartbeats 100000 in
theorem o_X9_bufferName_L18 (w : Int64) (k74 : Int64 → Int32 → Option Int64) (h : HD) : ∀ (n : Nat) (y1 : Int64) (y2 : Int32) (y3 : Int32), jX9_bufferName_L18 (o8 h w) k74 n y1 y2 y3 = jX9_bufferName_L18 h k74 n y1 y2 y3 := by
  intro n
  induction n with
  | zero => intros; rfl
  | succ n ih =>
    intro y1 y2 y3
    simp only [jX9_bufferName_L18]
    repeat' (first | with_reducible rfl | with_reducible apply ih |  intro _ | with_reducible apply lcg | with_reducible apply bcg | with_reducible apply icg | simp only [oh_bind, om_bind, bind_oh, bind_om, oh_some, om_some, oh_none, om_none, oh_ite, om_ite, gI_o8, gJ_o8, sI_o8, sJ_o8, lt_o8, oh_lt, om_lt, o_X9_isIn])
set_option maxHeartbeats 100000 in
theorem o_X9_bufferName (w : Int64) (h : HD) : jX9_bufferName (o8 h w) = jX9_bufferName h := by
  unfold jX9_bufferName
  generalize FU = N
  repeat' (first | with_reducible rfl |  intro _ | with_reducible apply lcg | with_reducible apply bcg | with_reducible apply icg | simp only [oh_bind, om_bind, bind_oh, bind_om, oh_some, om_some, oh_none, om_none, oh_ite, om_ite, gI_o8, gJ_o8, sI_o8, sJ_o8, lt_o8, oh_lt, om_lt, o_X9_isIn, o_X9_bufferName_L18])
set_option maxHeartbeats 100000 in
theorem o_X9_come (w : Int64) (p1 : Int32) (h : HD) : jX9_come p1 (o8 h w) = om w (jX9_come p1 h) := by
  unfold jX9_come
  repeat' (first | with_reducible rfl |  intro _ | with_reducible apply lcg | with_reducible apply bcg | with_reducible apply icg | simp only [oh_bind, om_bind, bind_oh, bind_om, oh_some, om_some, oh_none, om_none, oh_ite, om_ite, gI_o8, gJ_o8, sI_o8, sJ_o8, lt_o8, oh_lt, om_lt, o_X9_goes, o_X9_laysAside, o_X9_kept, o_X9_refused, o_X9_mayCome, o_X9_whyNoCar, o_X9_comes, o_X9_bufferName])
set_option maxHeartbeats 100000 in
theorem o_X9_whyNoGo_L2 (w : Int64) (p1 : Int32) (h : HD) : ∀ (n : Nat) (y1 : Int32), jX9_whyNoGo_L2 p1 (o8 h w) n y1 = jX9_whyNoGo_L2 p1 h n y1 := by
  intro n
  induction n with
  | zero => intros; rfl
  | succ n ih =>
    intro y1
    simp only [jX9_whyNoGo_L2]
    repeat' (first | with_reducible rfl | with_reducible apply ih |  intro _ | with_reducible apply lcg | with_reducible apply bcg | with_reducible apply icg | simp only [oh_bind, om_bind, bind_oh, bind_om, oh_some, om_some, oh_none, om_none, oh_ite, om_ite, gI_o8, gJ_o8, sI_o8, sJ_o8, lt_o8, oh_lt, om_lt, o_X9_wishOf])
set_option maxHeartbeats 100000 in
theorem o_X9_whyNoGo (w : Int64) (p1 : Int32) (h : HD) : jX9_whyNoGo p1 (o8 h w) = jX9_whyNoGo p1 h := by
  unfold jX9_whyNoGo
  generalize FU = N
  repeat' (first | with_reducible rfl |  intro _ | with_reducible apply lcg | with_reducible apply bcg | with_reducible apply icg | simp only [oh_bind, om_bind, bind_oh, bind_om, oh_some, om_some, oh_none, om_none, oh_ite, om_ite, gI_o8, gJ_o8, sI_o8, sJ_o8, lt_o8, oh_lt, om_lt, o_X9_whyNoGo_L2])
set_option maxHeartbeats 100000 in
theorem o_X9_leaves0 (w : Int64) (p1 : Int32) (h : HD) : jX9_leaves0 p1 (o8 h w) = om w (jX9_leaves0 p1 h) := by
  unfold jX9_leaves0
  repeat' (first | with_reducible rfl |  intro _ | with_reducible apply lcg | with_reducible apply bcg | with_reducible apply icg | simp only [oh_bind, om_bind, bind_oh, bind_om, oh_some, om_some, oh_none, om_none, oh_ite, om_ite, gI_o8, gJ_o8, sI_o8, sJ_o8, lt_o8, oh_lt, om_lt, o_X9_acted, o_X9_placesAt])
set_option maxHeartbeats 100000 in
theorem o_X9_go (w : Int64) (p1 : Int32) (h : HD) : jX9_go p1 (o8 h w) = om w (jX9_go p1 h) := by
  unfold jX9_go
  repeat' (first | with_reducible rfl |  intro _ | with_reducible apply lcg | with_reducible apply bcg | with_reducible apply icg | simp only [oh_bind, om_bind, bind_oh, bind_om, oh_some, om_some, oh_none, om_none, oh_ite, om_ite, gI_o8, gJ_o8, sI_o8, sJ_o8, lt_o8, oh_lt, om_lt, o_X9_goes, o_X9_laysAside, o_X9_kept, o_X9_refused, o_X9_isCar, o_X9_whyNoGo, o_X9_leaves0])
set_option maxHeartbeats 100000 in
theorem o_X9_sorts_L8 (w : Int64) (k35 : HD → Option (Int32 × HD)) (hk35 : ∀ (h : HD), k35 (o8 h w) = om w (k35 h)) : ∀ (n : Nat) (y1 : Int32) (h : HD), jX9_sorts_L8 k35 n y1 (o8 h w) = om w (jX9_sorts_L8 k35 n y1 h) := by
  intro n
  induction n with
  | zero => intros; rfl
  | succ n ih =>
    intro y1 h
    simp only [jX9_sorts_L8]
    repeat' (first | with_reducible rfl | with_reducible apply ih | with_reducible apply hk35 |  intro _ | with_reducible apply lcg | with_reducible apply bcg | with_reducible apply icg | simp only [oh_bind, om_bind, bind_oh, bind_om, oh_some, om_some, oh_none, om_none, oh_ite, om_ite, gI_o8, gJ_o8, sI_o8, sJ_o8, lt_o8, oh_lt, om_lt, o_X9_rankOf])
set_option maxHeartbeats 100000 in
theorem o_X9_sorts_L37 (w : Int64) (k112 : Int32 → HD → Option (Int32 × HD)) (hk112 : ∀ (z0 : Int32) (h : HD), k112 z0 (o8 h w) = om w (k112 z0 h)) : ∀ (n : Nat) (y1 : Int32) (y2 : Int32) (h : HD), jX9_sorts_L37 k112 n y1 y2 (o8 h w) = om w (jX9_sorts_L37 k112 n y1 y2 h) := by
  intro n
  induction n with
  | zero => intros; rfl
  | succ n ih =>
    intro y1 y2 h
    simp only [jX9_sorts_L37]
    repeat' (first | with_reducible rfl | with_reducible apply ih | with_reducible apply hk112 |  intro _ | with_reducible apply lcg | with_reducible apply bcg | with_reducible apply icg | simp only [oh_bind, om_bind, bind_oh, bind_om, oh_some, om_some, oh_none, om_none, oh_ite, om_ite, gI_o8, gJ_o8, sI_o8, sJ_o8, lt_o8, oh_lt, om_lt, o_X9_truth])
set_option maxHeartbeats 100000 in
theorem o_X9_sorts (w : Int64) (h : HD) : jX9_sorts (o8 h w) = om w (jX9_sorts h) := by
  unfold jX9_sorts
  generalize FU = N
  repeat' (first | with_reducible rfl | with_reducible apply o_X9_sorts_L8 | with_reducible apply o_X9_sorts_L37 |  intro _ | with_reducible apply lcg | with_reducible apply bcg | with_reducible apply icg | simp only [oh_bind, om_bind, bind_oh, bind_om, oh_some, om_some, oh_none, om_none, oh_ite, om_ite, gI_o8, gJ_o8, sI_o8, sJ_o8, lt_o8, oh_lt, om_lt, o_X9_laysAway, o_X9_acted])
set_option maxHeartbeats 100000 in
theorem o_X9_reverses_L2 (w : Int64) (k37 : HD → Option (Int32 × HD)) (hk37 : ∀ (h : HD), k37 (o8 h w) = om w (k37 h)) : ∀ (n : Nat) (y1 : Int32) (h : HD), jX9_reverses_L2 k37 n y1 (o8 h w) = om w (jX9_reverses_L2 k37 n y1 h) := by
  intro n
  induction n with
  | zero => intros; rfl
  | succ n ih =>
    intro y1 h
    simp only [jX9_reverses_L2]
    repeat' (first | with_reducible rfl | with_reducible apply ih | with_reducible apply hk37 |  intro _ | with_reducible apply lcg | with_reducible apply bcg | with_reducible apply icg | simp only [oh_bind, om_bind, bind_oh, bind_om, oh_some, om_some, oh_none, om_none, oh_ite, om_ite, gI_o8, gJ_o8, sI_o8, sJ_o8, lt_o8, oh_lt, om_lt, o_X9_changesPlaces])
set_option maxHeartbeats 100000 in
theorem o_X9_reverses (w : Int64) (h : HD) : jX9_reverses (o8 h w) = om w (jX9_reverses h) := by
  unfold jX9_reverses
  generalize FU = N
  repeat' (first | with_reducible rfl | with_reducible apply o_X9_reverses_L2 |  intro _ | with_reducible apply lcg | with_reducible apply bcg | with_reducible apply icg | simp only [oh_bind, om_bind, bind_oh, bind_om, oh_some, om_some, oh_none, om_none, oh_ite, om_ite, gI_o8, gJ_o8, sI_o8, sJ_o8, lt_o8, oh_lt, om_lt, o_X9_acted, o_X9_settingOf])
set_option maxHeartbeats 100000 in
theorem o_X9_commandHere (w : Int64) (h : HD) : jX9_commandHere (o8 h w) = jX9_commandHere h := by
  unfold jX9_commandHere
  repeat' (first | with_reducible rfl |  intro _ | with_reducible apply lcg | with_reducible apply bcg | with_reducible apply icg | simp only [oh_bind, om_bind, bind_oh, bind_om, oh_some, om_some, oh_none, om_none, oh_ite, om_ite, gI_o8, gJ_o8, sI_o8, sJ_o8, lt_o8, oh_lt, om_lt, o_X9_isWord])
set_option maxHeartbeats 4000000 in
theorem o_X9_readsRest (w : Int64) (p1 : Int32) (p2 : Int32) (h : HD) : jX9_readsRest p1 p2 (o8 h w) = oh w (jX9_readsRest p1 p2 h) := by
  unfold jX9_readsRest
  repeat' (first | with_reducible rfl |  intro _ | with_reducible apply lcg | with_reducible apply bcg | with_reducible apply icg | simp only [oh_bind, om_bind, bind_oh, bind_om, oh_some, om_some, oh_none, om_none, oh_ite, om_ite, gI_o8, gJ_o8, sI_o8, sJ_o8, lt_o8, oh_lt, om_lt, o_X9_isIn, o_X9_mustSign, o_X9_number, o_X9_nameHere])
set_option maxHeartbeats 4000000 in
theorem o_X9_command (w : Int64) (h : HD) : jX9_command (o8 h w) = oh w (jX9_command h) := by
  unfold jX9_command
  repeat' (first | with_reducible rfl |  intro _ | with_reducible apply lcg | with_reducible apply bcg | with_reducible apply icg | simp only [oh_bind, om_bind, bind_oh, bind_om, oh_some, om_some, oh_none, om_none, oh_ite, om_ite, gI_o8, gJ_o8, sI_o8, sJ_o8, lt_o8, oh_lt, om_lt, o_X9_truth, o_X9_goOnRead, o_X9_wrong, o_X9_isGood, o_X9_commandHere, o_X9_readsRest])
set_option maxHeartbeats 100000 in
theorem o_X9_closes_L0 (w : Int64) : ∀ (n : Nat) (h : HD), jX9_closes_L0 n (o8 h w) = oh w (jX9_closes_L0 n h) := by
  intro n
  induction n with
  | zero => intros; rfl
  | succ n ih =>
    intro h
    simp only [jX9_closes_L0]
    repeat' (first | with_reducible rfl | with_reducible apply ih |  intro _ | with_reducible apply lcg | with_reducible apply bcg | with_reducible apply icg | simp only [oh_bind, om_bind, bind_oh, bind_om, oh_some, om_some, oh_none, om_none, oh_ite, om_ite, gI_o8, gJ_o8, sI_o8, sJ_o8, lt_o8, oh_lt, om_lt, o_X9_goOnRead, o_X9_isSign, o_X9_mustSign])
set_option maxHeartbeats 100000 in
theorem o_X9_closes (w : Int64) (h : HD) : jX9_closes (o8 h w) = oh w (jX9_closes h) := by
  unfold jX9_closes
  generalize FU = N
  repeat' (first | with_reducible rfl |  intro _ | with_reducible apply lcg | with_reducible apply bcg | with_reducible apply icg | simp only [oh_bind, om_bind, bind_oh, bind_om, oh_some, om_some, oh_none, om_none, oh_ite, om_ite, gI_o8, gJ_o8, sI_o8, sJ_o8, lt_o8, oh_lt, om_lt, o_X9_closes_L0])
set_option maxHeartbeats 100000 in
theorem o_X9_may (w : Int64) (p1 : Int32) (h : HD) : jX9_may p1 (o8 h w) = om w (jX9_may p1 h) := by
  unfold jX9_may
  repeat' (first | with_reducible rfl |  intro _ | with_reducible apply lcg | with_reducible apply bcg | with_reducible apply icg | simp only [oh_bind, om_bind, bind_oh, bind_om, oh_some, om_some, oh_none, om_none, oh_ite, om_ite, gI_o8, gJ_o8, sI_o8, sJ_o8, lt_o8, oh_lt, om_lt, o_X9_refused, o_X9_isSpot, o_X9_carNamed, o_X9_isBack, o_X9_whyNoSwap, o_X9_isTurn, o_X9_mayCome, o_X9_whyNoCar, o_X9_whyNoGo])
set_option maxHeartbeats 100000 in
theorem o_X9_does (w : Int64) (p1 : Int32) (h : HD) : jX9_does p1 (o8 h w) = om w (jX9_does p1 h) := by
  unfold jX9_does
  repeat' (first | with_reducible rfl |  intro _ | with_reducible apply lcg | with_reducible apply bcg | with_reducible apply icg | simp only [oh_bind, om_bind, bind_oh, bind_om, oh_some, om_some, oh_none, om_none, oh_ite, om_ite, gI_o8, gJ_o8, sI_o8, sJ_o8, lt_o8, oh_lt, om_lt, o_X9_carNamed, o_X9_wishes, o_X9_swaps, o_X9_turns, o_X9_looksBack, o_X9_comes, o_X9_leaves0, o_X9_sorts, o_X9_reverses])
set_option maxHeartbeats 100000 in
theorem o_X9_doesAll_L12 (w : Int64) : ∀ (n : Nat) (y1 : Int32) (y2 : Int32) (y3 : Int32) (y4 : Int32) (y5 : Int32) (h : HD), jX9_doesAll_L12 n y1 y2 y3 y4 y5 (o8 h w) = om w (jX9_doesAll_L12 n y1 y2 y3 y4 y5 h) := by
  intro n
  induction n with
  | zero => intros; rfl
  | succ n ih =>
    intro y1 y2 y3 y4 y5 h
    simp only [jX9_doesAll_L12]
    repeat' (first | with_reducible rfl | with_reducible apply ih |  intro _ | with_reducible apply lcg | with_reducible apply bcg | with_reducible apply icg | simp only [oh_bind, om_bind, bind_oh, bind_om, oh_some, om_some, oh_none, om_none, oh_ite, om_ite, gI_o8, gJ_o8, sI_o8, sJ_o8, lt_o8, oh_lt, om_lt, o_X9_truth, o_X9_may, o_X9_does])
set_option maxHeartbeats 100000 in
theorem o_X9_doesAll (w : Int64) (h : HD) : jX9_doesAll (o8 h w) = om w (jX9_doesAll h) := by
  unfold jX9_doesAll
  generalize FU = N
  repeat' (first | with_reducible rfl |  intro _ | with_reducible apply lcg | with_reducible apply bcg | with_reducible apply icg | simp only [oh_bind, om_bind, bind_oh, bind_om, oh_some, om_some, oh_none, om_none, oh_ite, om_ite, gI_o8, gJ_o8, sI_o8, sJ_o8, lt_o8, oh_lt, om_lt, o_X9_doesAll_L12])
set_option maxHeartbeats 100000 in
theorem o_X9_runScript_L19 (w : Int64) (k63 : HD → Option (Int32 × HD)) (hk63 : ∀ (h : HD), k63 (o8 h w) = om w (k63 h)) : ∀ (n : Nat) (h : HD), jX9_runScript_L19 k63 n (o8 h w) = om w (jX9_runScript_L19 k63 n h) := by
  intro n
  induction n with
  | zero => intros; rfl
  | succ n ih =>
    intro h
    simp only [jX9_runScript_L19]
    repeat' (first | with_reducible rfl | with_reducible apply ih | with_reducible apply hk63 |  intro _ | with_reducible apply lcg | with_reducible apply bcg | with_reducible apply icg | simp only [oh_bind, om_bind, bind_oh, bind_om, oh_some, om_some, oh_none, om_none, oh_ite, om_ite, gI_o8, gJ_o8, sI_o8, sJ_o8, lt_o8, oh_lt, om_lt, o_X9_isGood, o_X9_mustSign, o_X9_command, o_X9_closes])
set_option maxHeartbeats 100000 in
theorem o_X9_runScript (w : Int64) (h : HD) : jX9_runScript (o8 h w) = om w (jX9_runScript h) := by
  unfold jX9_runScript
  generalize FU = N
  repeat' (first | with_reducible rfl | with_reducible apply o_X9_runScript_L19 |  intro _ | with_reducible apply lcg | with_reducible apply bcg | with_reducible apply icg | simp only [oh_bind, om_bind, bind_oh, bind_om, oh_some, om_some, oh_none, om_none, oh_ite, om_ite, gI_o8, gJ_o8, sI_o8, sJ_o8, lt_o8, oh_lt, om_lt, o_X9_wrong, o_X9_isGood, o_X9_beginsText, o_X9_endsText, o_X9_laysAside, o_X9_keeps, o_X9_doesAll])
set_option maxHeartbeats 100000 in
theorem o_X9_reportByte (w : Int64) (p1 : Int32) (h : HD) : jX9_reportByte p1 (o8 h w) = om w (jX9_reportByte p1 h) := by
  unfold jX9_reportByte
  repeat' (first | with_reducible rfl |  intro _ | with_reducible apply lcg | with_reducible apply bcg | with_reducible apply icg | simp only [oh_bind, om_bind, bind_oh, bind_om, oh_some, om_some, oh_none, om_none, oh_ite, om_ite, gI_o8, gJ_o8, sI_o8, sJ_o8, lt_o8, oh_lt, om_lt, o_X9_isIn, o_X9_goes])
