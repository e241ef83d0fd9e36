/-! tokens of a text, told without a machine -/
def tk_ch (B : Int → Int) (n k : Int) : Int := if k < n then B k else -1
def tk_sc (b : Int → Bool) : Nat → Int → Int
  | 0, k => k
  | j + 1, k => if b k = true then tk_sc b j (k + 1) else k
def tk_to (b : Int → Bool) (n k : Int) : Int := tk_sc b (n - k).toNat k
theorem tk_to_t {b : Int → Bool} {n k : Int} (h : b k = true) (hk : k < n) : tk_to b n k = tk_to b n (k + 1) := by
  unfold tk_to
  rw [show (n - k).toNat = (n - (k + 1)).toNat + 1 by omega]
  show (if b k = true then tk_sc b (n - (k + 1)).toNat (k + 1) else k) = _
  rw [if_pos h]
theorem tk_to_f {b : Int → Bool} {n k : Int} (h : b k = false) : tk_to b n k = k := by
  unfold tk_to
  cases (n - k).toNat with
  | zero => rfl
  | succ j =>
    show (if b k = true then tk_sc b j (k + 1) else k) = k
    rw [if_neg (by rw [h]; decide)]
theorem tk_to_r {b : Int → Bool} {n : Int} (hb : ∀ k, n ≤ k → b k = false) : ∀ (j : Nat) (k : Int), n ≤ k + j → k ≤ tk_to b n k ∧ (k ≤ n → tk_to b n k ≤ n) ∧ b (tk_to b n k) = false ∧ ∀ i, k ≤ i → i < tk_to b n k → b i = true := by
  intro j
  induction j with
  | zero =>
    intro k h
    have hf := hb k (by omega)
    rw [tk_to_f hf]
    exact ⟨by omega, fun h => h, hf, fun i a b => by omega⟩
  | succ j ih =>
    intro k h
    by_cases g : b k = true
    · have hk : k < n := by
        by_cases hk : k < n
        · exact hk
        · rw [hb k (by omega)] at g
          cases g
      rw [tk_to_t g hk]
      obtain ⟨r1, r2, r3, r4⟩ := ih (k + 1) (by omega)
      refine ⟨by omega, fun _ => r2 (by omega), r3, fun i a c => ?_⟩
      by_cases e : i = k
      · rw [e]; exact g
      · exact r4 i (by omega) c
    · have hf : b k = false := by
        cases e : b k with
        | true => exact absurd e g
        | false => rfl
      rw [tk_to_f hf]
      exact ⟨by omega, fun h => h, hf, fun i a b => by omega⟩
def tk_s (B : Int → Int) (n k : Int) : Bool := decide (tk_ch B n k = 32)
def tk_w (B : Int → Int) (n k : Int) : Bool := decide (97 ≤ tk_ch B n k ∧ tk_ch B n k ≤ 122)
def tk_d (B : Int → Int) (n k : Int) : Bool := decide (48 ≤ tk_ch B n k ∧ tk_ch B n k ≤ 57)
theorem tk_ch_n {B : Int → Int} {n k : Int} (h : n ≤ k) : tk_ch B n k = -1 := if_neg (by omega)
theorem tk_ch_b {B : Int → Int} {n k : Int} (h : k < n) : tk_ch B n k = B k := if_pos h
theorem tk_s_n {B : Int → Int} {n : Int} : ∀ k, n ≤ k → tk_s B n k = false := fun k h => by
  unfold tk_s
  rw [tk_ch_n h]
  rfl
theorem tk_w_n {B : Int → Int} {n : Int} : ∀ k, n ≤ k → tk_w B n k = false := fun k h => by
  unfold tk_w
  rw [tk_ch_n h]
  rfl
theorem tk_d_n {B : Int → Int} {n : Int} : ∀ k, n ≤ k → tk_d B n k = false := fun k h => by
  unfold tk_d
  rw [tk_ch_n h]
  rfl
def tk_a (B : Int → Int) (n k : Int) : Int := tk_to (tk_s B n) n k
def tk_e (B : Int → Int) (n k : Int) : Int := if n ≤ tk_a B n k then tk_a B n k else if tk_w B n (tk_a B n k) = true then tk_to (tk_w B n) n (tk_a B n k) else if tk_d B n (tk_a B n k) = true then tk_to (tk_d B n) n (tk_a B n k) else tk_a B n k + 1
def tk_k (B : Int → Int) (n k : Int) : Int := if n ≤ tk_a B n k then 0 else if tk_w B n (tk_a B n k) = true then (if tk_e B n k - tk_a B n k ≤ 8 then 2 else 1) else if tk_d B n (tk_a B n k) = true then (if tk_e B n k - tk_a B n k ≤ 3 then 3 else 1) else if tk_ch B n (tk_a B n k) = 59 then 59 else 1
def tk_num (B : Int → Int) : Nat → Int → Int → Int
  | 0, _, v => v
  | j + 1, i, v => tk_num B j (i + 1) (10 * v + (B i - 48))
def tk_pk (f : Int → Int) : Nat → Int → Int → Int
  | 0, _, v => v
  | j + 1, i, v => tk_pk f j (i + 1) (32 * v + (f i - 96))
def tk_v (B : Int → Int) (n k : Int) : Int := tk_num B (tk_e B n k - tk_a B n k).toNat (tk_a B n k) 0
def tk_c (B : Int → Int) (n k : Int) : Int := tk_pk B (tk_e B n k - tk_a B n k).toNat (tk_a B n k) 0
theorem tk_num_s {B : Int → Int} : ∀ (j : Nat) (i v : Int), tk_num B (j + 1) i v = 10 * tk_num B j i v + (B (i + j) - 48) := by
  intro j
  induction j with
  | zero => intro i v; show 10 * v + (B i - 48) = 10 * v + (B (i + 0) - 48); rw [Int.add_zero]
  | succ j ih =>
    intro i v
    show tk_num B (j + 1) (i + 1) (10 * v + (B i - 48)) = 10 * tk_num B j (i + 1) (10 * v + (B i - 48)) + _
    rw [ih, show i + 1 + (j : Int) = i + ((j + 1 : Nat) : Int) by omega]
theorem tk_pk_s {f : Int → Int} : ∀ (j : Nat) (i v : Int), tk_pk f (j + 1) i v = 32 * tk_pk f j i v + (f (i + j) - 96) := by
  intro j
  induction j with
  | zero => intro i v; show 32 * v + (f i - 96) = 32 * v + (f (i + 0) - 96); rw [Int.add_zero]
  | succ j ih =>
    intro i v
    show tk_pk f (j + 1) (i + 1) (32 * v + (f i - 96)) = 32 * tk_pk f j (i + 1) (32 * v + (f i - 96)) + _
    rw [ih, show i + 1 + (j : Int) = i + ((j + 1 : Nat) : Int) by omega]
theorem tk_pk_r {f : Int → Int} : ∀ (j : Nat) (i : Int), (∀ x : Int, 0 ≤ x → x < j → 97 ≤ f (i + x) ∧ f (i + x) ≤ 122) → 0 ≤ tk_pk f j i 0 ∧ tk_pk f j i 0 < 32 ^ j := by
  intro j
  induction j with
  | zero => intro i h; exact ⟨Int.le_refl _, Int.zero_lt_one⟩
  | succ j ih =>
    intro i h
    have h1 := ih i (fun x a b => h x a (by omega))
    have h2 := h j (by omega) (by omega)
    rw [tk_pk_s, Int.pow_succ]
    omega
theorem tk_p7 : ∀ j : Nat, j ≤ 8 → (32 : Int) ^ j ≤ 1099511627776 := by decide
theorem tk_p8 : ∀ j : Nat, j ≤ 7 → (32 : Int) ^ j ≤ 34359738368 := by decide
theorem tk_pk_c {f g : Int → Int} : ∀ (j : Nat) (i k v : Int), (∀ x : Int, 0 ≤ x → x < j → f (i + x) = g (k + x)) → tk_pk f j i v = tk_pk g j k v := by
  intro j
  induction j with
  | zero => intro i k v h; rfl
  | succ j ih =>
    intro i k v h
    rw [tk_pk_s, tk_pk_s, ih i k v (fun x a b => h x a (by omega)), h j (by omega) (by omega)]
theorem tk_pk_i {f g : Int → Int} : ∀ (j l : Nat) (i k : Int), (∀ x : Int, 0 ≤ x → x < j → 97 ≤ f (i + x) ∧ f (i + x) ≤ 122) → (∀ x : Int, 0 ≤ x → x < l → 97 ≤ g (k + x) ∧ g (k + x) ≤ 122) → tk_pk f j i 0 = tk_pk g l k 0 → j = l ∧ ∀ x : Int, 0 ≤ x → x < j → f (i + x) = g (k + x) := by
  intro j
  induction j with
  | zero =>
    intro l i k hf hg h
    cases l with
    | zero => exact ⟨rfl, fun x a b => by omega⟩
    | succ l =>
      have h1 := tk_pk_r l k (fun x a b => hg x a (by omega))
      have h2 := hg l (by omega) (by omega)
      rw [tk_pk_s] at h
      have h3 : tk_pk f 0 i 0 = 0 := rfl
      omega
  | succ j ih =>
    intro l i k hf hg h
    have h1 := tk_pk_r j i (fun x a b => hf x a (by omega))
    have h2 := hf j (by omega) (by omega)
    cases l with
    | zero =>
      rw [tk_pk_s] at h
      have h3 : tk_pk g 0 k 0 = 0 := rfl
      omega
    | succ l =>
      have h3 := tk_pk_r l k (fun x a b => hg x a (by omega))
      have h4 := hg l (by omega) (by omega)
      rw [tk_pk_s, tk_pk_s] at h
      obtain ⟨q1, q2⟩ := ih l i k (fun x a b => hf x a (by omega)) (fun x a b => hg x a (by omega)) (by omega)
      subst q1
      refine ⟨rfl, fun x a b => ?_⟩
      by_cases e : x = j
      · rw [e]; omega
      · exact q2 x a (by omega)
/-- the machine's way with letters -/
theorem tk_or {v x : Int} (h1 : 0 ≤ v) (h2 : v < 34359738368) (h3 : 0 ≤ x) (h4 : x < 32) : zm_lor (zm_lshl v 5) x = 32 * v + x := by
  obtain ⟨a, rfl⟩ := Int.eq_ofNat_of_zero_le h1
  obtain ⟨b, rfl⟩ := Int.eq_ofNat_of_zero_le h3
  have ha : a < 34359738368 := by omega
  have hb : b < 32 := by omega
  have e1 : zm_lshl (a : Int) 5 = ((a * 32 : Nat) : Int) := by
    have q : Int64.ofInt (a : Int) <<< ((Int32.ofInt 5).toInt64 &&& 63) = Int64.ofInt ((a * 32 : Nat) : Int) := by
      have k : ((Int32.ofInt 5).toInt64 &&& 63) = 5 := by decide
      rw [k]
      apply Int64.toBitVec_inj.mp
      rw [Int64.toBitVec_shiftLeft, Int64.toBitVec_ofInt, Int64.toBitVec_ofInt, BitVec.ofInt_natCast, BitVec.ofInt_natCast]
      apply BitVec.eq_of_toNat_eq
      have k2 : ((5 : Int64).toBitVec.smod 64) = 5#64 := by decide
      rw [k2]
      simp only [BitVec.shiftLeft_eq', BitVec.toNat_shiftLeft, BitVec.toNat_ofNat, Nat.shiftLeft_eq]
      rw [Nat.mod_eq_of_lt (show a < 2 ^ 64 by omega)]
    unfold zm_lshl
    rw [q]
    exact n64_id (z := ((a * 32 : Nat) : Int)) (by omega) (by omega)
  rw [e1]
  have q : Int64.ofInt ((a * 32 : Nat) : Int) ||| Int64.ofInt (b : Int) = Int64.ofInt ((a * 32 + b : Nat) : Int) := by
    apply Int64.toBitVec_inj.mp
    rw [Int64.toBitVec_or, Int64.toBitVec_ofInt, Int64.toBitVec_ofInt, Int64.toBitVec_ofInt, BitVec.ofInt_natCast, BitVec.ofInt_natCast, BitVec.ofInt_natCast]
    apply BitVec.eq_of_toNat_eq
    rw [BitVec.toNat_or, BitVec.toNat_ofNat, BitVec.toNat_ofNat, BitVec.toNat_ofNat, Nat.mod_eq_of_lt (by omega), Nat.mod_eq_of_lt (by omega), Nat.mod_eq_of_lt (by omega)]
    have k := Nat.two_pow_add_eq_or_of_lt (i := 5) (b := b) (by omega) a
    rw [show a * 32 = 2 ^ 5 * a by omega, ← k]
  unfold zm_lor
  rw [q]
  have k := n64_id (z := ((a * 32 + b : Nat) : Int)) (by omega) (by omega)
  unfold n64 at k
  rw [k]
  omega
theorem zm_lcmp_e {a b : Int} (h1 : 0 ≤ a) (h2 : a < 9223372036854775808) (h3 : 0 ≤ b) (h4 : b < 9223372036854775808) : (n32 (zm_lcmp a b) = 0) = (a = b) := by
  unfold zm_lcmp
  rw [n64_id (by omega) h2, n64_id (by omega) h4]
  apply propext
  by_cases g : a = b
  · subst g
    rw [if_neg (by omega), if_pos rfl]
    exact ⟨fun _ => rfl, fun _ => by decide⟩
  · by_cases g2 : b < a
    · rw [if_pos g2]
      exact ⟨fun h => absurd h (by decide), fun h => absurd h g⟩
    · rw [if_neg g2, if_neg g]
      exact ⟨fun h => absurd h (by decide), fun h => absurd h g⟩
/-- the words of the language -/
def tk_l (w : Nat) : Nat := (zm_chars.getD w []).length
def tk_g (w : Nat) (i : Int) : Int := (zm_chars.getD w []).getD i.toNat 0
def tk_wc (w : Nat) : Int := tk_pk (tk_g w) (tk_l w) 0 0
theorem tk_l_r0 : ∀ w : Fin 22, 1 ≤ tk_l w.val ∧ tk_l w.val ≤ 8 ∧ ∀ j : Fin 8, j.val < tk_l w.val → 97 ≤ tk_g w.val (j.val : Int) ∧ tk_g w.val (j.val : Int) ≤ 122 := by decide +kernel
theorem tk_l_r {w : Nat} (h : w < 22) : 1 ≤ tk_l w ∧ tk_l w ≤ 8 := ⟨(tk_l_r0 ⟨w, h⟩).1, (tk_l_r0 ⟨w, h⟩).2.1⟩
theorem tk_g_r {w : Nat} (h : w < 22) {x : Int} (h1 : 0 ≤ x) (h2 : x < tk_l w) : 97 ≤ tk_g w x ∧ tk_g w x ≤ 122 := by
  have hl := tk_l_r h
  have := (tk_l_r0 ⟨w, h⟩).2.2 ⟨x.toNat, by omega⟩ (by show x.toNat < tk_l w; omega)
  simp only [Int.toNat_of_nonneg h1] at this
  exact this
def tk_is (B : Int → Int) (n k : Int) (w : Nat) : Bool := decide (tk_k B n k = 2 ∧ tk_c B n k = tk_wc w)
section TK
variable {B : Int → Int} {n k : Int}
theorem tk_a_r (h : k ≤ n) : k ≤ tk_a B n k ∧ tk_a B n k ≤ n := by
  have := tk_to_r (b := tk_s B n) (n := n) tk_s_n (n - k).toNat k (by omega)
  exact ⟨this.1, this.2.1 h⟩
theorem tk_e_r (h : k ≤ n) : tk_a B n k ≤ tk_e B n k ∧ tk_e B n k ≤ n ∧ (tk_a B n k < n → tk_a B n k < tk_e B n k) := by
  have ha := tk_a_r (B := B) h
  unfold tk_e
  by_cases g : n ≤ tk_a B n k
  · rw [if_pos g]; omega
  · rw [if_neg g]
    by_cases g1 : tk_w B n (tk_a B n k) = true
    · rw [if_pos g1, tk_to_t g1 (by omega)]
      have := tk_to_r (b := tk_w B n) (n := n) tk_w_n n.toNat (tk_a B n k + 1)
      have := tk_to_r (b := tk_w B n) (n := n) tk_w_n (n - (tk_a B n k + 1)).toNat (tk_a B n k + 1) (by omega)
      have h2 := this.2.1 (by omega)
      omega
    · rw [if_neg g1]
      by_cases g2 : tk_d B n (tk_a B n k) = true
      · rw [if_pos g2, tk_to_t g2 (by omega)]
        have := tk_to_r (b := tk_d B n) (n := n) tk_d_n (n - (tk_a B n k + 1)).toNat (tk_a B n k + 1) (by omega)
        have h2 := this.2.1 (by omega)
        omega
      · rw [if_neg g2]
        omega
theorem tk_k0 (h : k ≤ n) : tk_k B n k = 0 ↔ n ≤ tk_a B n k := by
  unfold tk_k
  by_cases g : n ≤ tk_a B n k
  · rw [if_pos g]; exact ⟨fun _ => g, fun _ => rfl⟩
  · rw [if_neg g]
    refine ⟨fun h => ?_, fun h => absurd h g⟩
    split at h
    · split at h <;> omega
    · split at h
      · split at h <;> omega
      · split at h <;> omega
theorem tk_go (h : k ≤ n) (h2 : tk_k B n k ≠ 0) : k < tk_e B n k ∧ tk_e B n k ≤ n := by
  have h3 := mt (tk_k0 (B := B) h).mpr h2
  have h4 := tk_a_r (B := B) h
  have h5 := tk_e_r (B := B) h
  omega
/-- a word has letters -/
theorem tk_word (h : k ≤ n) (h2 : tk_k B n k = 2) : tk_a B n k < n ∧ tk_w B n (tk_a B n k) = true ∧ tk_e B n k = tk_to (tk_w B n) n (tk_a B n k) ∧ 1 ≤ tk_e B n k - tk_a B n k ∧ tk_e B n k - tk_a B n k ≤ 8 ∧ ∀ x, 0 ≤ x → x < tk_e B n k - tk_a B n k → 97 ≤ B (tk_a B n k + x) ∧ B (tk_a B n k + x) ≤ 122 := by
  have h3 := mt (tk_k0 (B := B) h).mpr (by omega)
  have h4 := tk_a_r (B := B) h
  have h5 := tk_e_r (B := B) h
  have hk := h2
  unfold tk_k at hk
  rw [if_neg h3] at hk
  by_cases g1 : tk_w B n (tk_a B n k) = true
  · rw [if_pos g1] at hk
    by_cases g2 : tk_e B n k - tk_a B n k ≤ 8
    · have he : tk_e B n k = tk_to (tk_w B n) n (tk_a B n k) := by
        unfold tk_e
        rw [if_neg h3, if_pos g1]
      refine ⟨by omega, g1, he, by omega, g2, fun x a b => ?_⟩
      have := tk_to_r (b := tk_w B n) (n := n) tk_w_n (n - tk_a B n k).toNat (tk_a B n k) (by omega)
      have t := this.2.2.2 (tk_a B n k + x) (by omega) (by omega)
      unfold tk_w at t
      rw [decide_eq_true_eq, tk_ch_b (by omega)] at t
      exact t
    · rw [if_neg g2] at hk; omega
  · rw [if_neg g1] at hk
    split at hk
    · split at hk <;> omega
    · split at hk <;> omega
theorem tk_c_r (h : k ≤ n) (h2 : tk_k B n k = 2) : 0 ≤ tk_c B n k ∧ tk_c B n k < 1099511627776 := by
  obtain ⟨-, -, -, h3, h4, h5⟩ := tk_word h h2
  have := tk_pk_r (f := B) (tk_e B n k - tk_a B n k).toNat (tk_a B n k) (fun x a b => h5 x a (by omega))
  have h6 := tk_p7 (tk_e B n k - tk_a B n k).toNat (by omega)
  unfold tk_c
  omega
theorem tk_wc_r {w : Nat} (h : w < 22) : 0 ≤ tk_wc w ∧ tk_wc w < 1099511627776 := by
  have hl := tk_l_r h
  have := tk_pk_r (f := tk_g w) (tk_l w) 0 (fun x a b => by rw [Int.zero_add]; exact tk_g_r h a b)
  have h6 := tk_p7 (tk_l w) (by omega)
  unfold tk_wc
  omega
/-- the two ways to hold a word against another -/
theorem tk_is_i {w : Nat} (hw : w < 22) (h : k ≤ n) (h2 : tk_k B n k = 2) : tk_is B n k w = true ↔ (tk_e B n k - tk_a B n k = tk_l w ∧ ∀ x : Int, 0 ≤ x → x < tk_l w → B (tk_a B n k + x) = tk_g w x) := by
  obtain ⟨-, -, -, h3, h4, h5⟩ := tk_word h h2
  unfold tk_is
  rw [decide_eq_true_eq]
  constructor
  · rintro ⟨-, q⟩
    have := tk_pk_i (f := B) (g := tk_g w) (tk_e B n k - tk_a B n k).toNat (tk_l w) (tk_a B n k) 0 (fun x a b => h5 x a (by omega)) (fun x a b => by rw [Int.zero_add]; exact tk_g_r hw a b) q
    refine ⟨by omega, fun x a b => ?_⟩
    have t := this.2 x a (by omega)
    rw [Int.zero_add] at t
    exact t
  · rintro ⟨q1, q2⟩
    refine ⟨h2, ?_⟩
    unfold tk_c tk_wc
    rw [show (tk_e B n k - tk_a B n k).toNat = tk_l w by omega]
    exact tk_pk_c _ _ _ _ (fun x a b => by rw [Int.zero_add]; exact q2 x a b)
/-- a whole -/
theorem tk_num_r {B : Int → Int} : ∀ (j : Nat) (i : Int), (∀ x : Int, 0 ≤ x → x < j → 48 ≤ B (i + x) ∧ B (i + x) ≤ 57) → 0 ≤ tk_num B j i 0 ∧ tk_num B j i 0 < 10 ^ j := by
  intro j
  induction j with
  | zero => intro i h; exact ⟨Int.le_refl _, Int.zero_lt_one⟩
  | succ j ih =>
    intro i h
    have h1 := ih i (fun x a b => h x a (by omega))
    have h2 := h j (by omega) (by omega)
    rw [tk_num_s, Int.pow_succ]
    omega
theorem tk_p3 : ∀ j : Nat, j ≤ 3 → (10 : Int) ^ j ≤ 1000 := by decide
theorem tk_whole (h : k ≤ n) (h2 : tk_k B n k = 3) : tk_a B n k < n ∧ tk_w B n (tk_a B n k) = false ∧ tk_d B n (tk_a B n k) = true ∧ 1 ≤ tk_e B n k - tk_a B n k ∧ tk_e B n k - tk_a B n k ≤ 3 ∧ (0 ≤ tk_v B n k ∧ tk_v B n k < 1000) := by
  have h3 := mt (tk_k0 (B := B) h).mpr (by omega)
  have h4 := tk_a_r (B := B) h
  have h5 := tk_e_r (B := B) h
  have hk := h2
  unfold tk_k at hk
  rw [if_neg h3] at hk
  by_cases g1 : tk_w B n (tk_a B n k) = true
  · rw [if_pos g1] at hk
    split at hk <;> omega
  · rw [if_neg g1] at hk
    by_cases g2 : tk_d B n (tk_a B n k) = true
    · rw [if_pos g2] at hk
      by_cases g3 : tk_e B n k - tk_a B n k ≤ 3
      · have he : tk_e B n k = tk_to (tk_d B n) n (tk_a B n k) := by
          unfold tk_e
          rw [if_neg h3, if_neg g1, if_pos g2]
        have q := tk_num_r (B := B) (tk_e B n k - tk_a B n k).toNat (tk_a B n k) (fun x a b => by
          have := tk_to_r (b := tk_d B n) (n := n) tk_d_n (n - tk_a B n k).toNat (tk_a B n k) (by omega)
          have t := this.2.2.2 (tk_a B n k + x) (by omega) (by omega)
          unfold tk_d at t
          rw [decide_eq_true_eq, tk_ch_b (by omega)] at t
          exact t)
        have h6 := tk_p3 (tk_e B n k - tk_a B n k).toNat (by omega)
        refine ⟨by omega, by simpa using g1, g2, by omega, g3, ?_⟩
        unfold tk_v
        omega
      · rw [if_neg g3] at hk; omega
    · rw [if_neg g2] at hk
      split at hk <;> omega
end TK
