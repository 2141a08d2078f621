/-! part 8d: moves of the reference: laid by wip/flat/w8c.py -/
section
variable {m : zf_Me}
theorem zs_203_0 {p v tra : Int32} (hp : 0 ≤ p.toInt ∧ p.toInt < 6) (k67 : (m.1 67 p.toInt.toNat).toInt = 0) (t68 : m.1 68 p.toInt.toNat = tra) {r : Int} (hr : r ≤ 30) (h0 : zrn m r) {Q : Int32 → zf_Me → Prop} (hq : zrn (zru m 10) (r + 4) → Q (v + p) (zru m 10)) : wp_203 p v m Q :=
  ⟨hp, fun _ => ⟨fun z => absurd z (by omega), fun _ => ⟨fun _ => ⟨fun z => absurd z (by omega), fun _ => ⟨fun _ => zs_202x (b := 10) rfl (by omega) h0 (fun h1 => ⟨fun z => absurd z (by omega), fun _ => ⟨fun _ => ⟨fun z => absurd z (by omega), fun _ => ⟨fun _ => ⟨fun _ => hq (zrn_le h1 (by omega)), fun z => absurd z (by omega)⟩, fun z => absurd z (by omega)⟩⟩, fun z => absurd z (by omega)⟩⟩), fun z => absurd z (by omega)⟩⟩, fun z => absurd z (by omega)⟩⟩, fun z => absurd z (by omega)⟩
theorem zs_203_1 {p v tra : Int32} (hp : 0 ≤ p.toInt ∧ p.toInt < 6) (k67 : (m.1 67 p.toInt.toNat).toInt = 1) (t68 : m.1 68 p.toInt.toNat = tra) {r : Int} (hr : r ≤ 30) (h0 : zrn m r) {Q : Int32 → zf_Me → Prop} (hq : zrn (zru (zru m 20) 10) (r + 4) → Q ((v + p) + tra) (zru (zru m 20) 10)) : wp_203 p v m Q :=
  ⟨hp, fun _ => ⟨fun z => absurd z (by omega), fun _ => ⟨fun _ => ⟨fun _ => zs_202x (b := 20) rfl (by omega) h0 (fun h1 => zs_202x (b := 10) rfl (by omega) h1 (fun h2 => ⟨fun _ => ⟨hp, by rw [zru_a (by decide), zru_a (by decide), t68]; exact ⟨fun z => absurd z (by omega), fun _ => ⟨fun _ => ⟨fun _ => hq (zrn_le h2 (by omega)), fun z => absurd z (by omega)⟩, fun z => absurd z (by omega)⟩⟩⟩, fun z => absurd k67 z⟩)), fun z => absurd k67 z⟩, fun z => absurd z (by omega)⟩⟩, fun z => absurd z (by omega)⟩
theorem zs_203_2 {p v tra : Int32} (hp : 0 ≤ p.toInt ∧ p.toInt < 6) (k67 : (m.1 67 p.toInt.toNat).toInt = 2) (t68 : m.1 68 p.toInt.toNat = tra) {r : Int} (hr : r ≤ 30) (h0 : zrn m r) {Q : Int32 → zf_Me → Prop} (hq : zrn (zru m 10) (r + 4) → Q (v + p) (zru m 10)) : wp_203 p v m Q :=
  ⟨hp, fun _ => ⟨fun z => absurd z (by omega), fun _ => ⟨fun _ => ⟨fun z => absurd z (by omega), fun _ => ⟨fun _ => zs_202x (b := 10) rfl (by omega) h0 (fun h1 => ⟨fun z => absurd z (by omega), fun _ => ⟨fun _ => ⟨fun z => absurd z (by omega), fun _ => ⟨fun _ => ⟨fun _ => hq (zrn_le h1 (by omega)), fun z => absurd z (by omega)⟩, fun z => absurd z (by omega)⟩⟩, fun z => absurd z (by omega)⟩⟩), fun z => absurd z (by omega)⟩⟩, fun z => absurd z (by omega)⟩⟩, fun z => absurd z (by omega)⟩
theorem zs_203_3 {p v tra : Int32} (hp : 0 ≤ p.toInt ∧ p.toInt < 6) (k67 : (m.1 67 p.toInt.toNat).toInt = 3) (t68 : m.1 68 p.toInt.toNat = tra) {r : Int} (hr : r ≤ 30) (h0 : zrn m r) {Q : Int32 → zf_Me → Prop} (hq : zrn (zru (zru m 20) 10) (r + 4) → Q ((v + p) + tra) (zru (zru m 20) 10)) : wp_203 p v m Q :=
  ⟨hp, fun _ => ⟨fun z => absurd z (by omega), fun _ => ⟨fun _ => ⟨fun z => absurd z (by omega), fun _ => ⟨fun z => absurd k67 z, fun _ => zs_202x (b := 20) rfl (by omega) h0 (fun h1 => zs_202x (b := 10) rfl (by omega) h1 (fun h2 => ⟨fun z => absurd z (by omega), fun _ => ⟨fun z => absurd k67 z, fun _ => ⟨hp, by rw [zru_a (by decide), zru_a (by decide), t68]; exact ⟨fun z => absurd z (by omega), fun _ => ⟨fun _ => ⟨fun _ => hq (zrn_le h2 (by omega)), fun z => absurd z (by omega)⟩, fun z => absurd z (by omega)⟩⟩⟩⟩⟩))⟩⟩, fun z => absurd z (by omega)⟩⟩, fun z => absurd z (by omega)⟩
theorem zs_203_4 {p v tra : Int32} (hp : 0 ≤ p.toInt ∧ p.toInt < 6) (k67 : (m.1 67 p.toInt.toNat).toInt = 4) (t68 : m.1 68 p.toInt.toNat = tra) {r : Int} (hr : r ≤ 30) (h0 : zrn m r) {Q : Int32 → zf_Me → Prop} (hq : zrn (zru (zru m 51) 10) (r + 4) → Q ((v + p) - p) (zru (zru m 51) 10)) : wp_203 p v m Q :=
  ⟨hp, fun _ => ⟨fun _ => zs_202x (b := 51) rfl (by omega) h0 (fun h1 => ⟨fun z => absurd z (by omega), fun _ => ⟨fun _ => zs_202x (b := 10) rfl (by omega) h1 (fun h2 => ⟨fun z => absurd z (by omega), fun _ => ⟨fun _ => ⟨fun _ => ⟨fun _ => hq (zrn_le h2 (by omega)), fun z => absurd z (by omega)⟩, fun z => absurd k67 z⟩, fun z => absurd z (by omega)⟩⟩), fun z => absurd z (by omega)⟩⟩), fun z => absurd k67 z⟩, fun z => absurd z (by omega)⟩
theorem zs_203_5 {p v tra : Int32} (hp : 0 ≤ p.toInt ∧ p.toInt < 6) (k67 : (m.1 67 p.toInt.toNat).toInt = 5) (t68 : m.1 68 p.toInt.toNat = tra) {r : Int} (hr : r ≤ 30) (h0 : zrn m r) {Q : Int32 → zf_Me → Prop} (hq : zrn (zru m 10) (r + 4) → Q (v + p) (zru m 10)) : wp_203 p v m Q :=
  ⟨hp, fun _ => ⟨fun z => absurd z (by omega), fun _ => ⟨fun _ => ⟨fun z => absurd z (by omega), fun _ => ⟨fun _ => zs_202x (b := 10) rfl (by omega) h0 (fun h1 => ⟨fun z => absurd z (by omega), fun _ => ⟨fun _ => ⟨fun z => absurd z (by omega), fun _ => ⟨fun _ => ⟨fun _ => hq (zrn_le h1 (by omega)), fun z => absurd z (by omega)⟩, fun z => absurd z (by omega)⟩⟩, fun z => absurd z (by omega)⟩⟩), fun z => absurd z (by omega)⟩⟩, fun z => absurd z (by omega)⟩⟩, fun z => absurd z (by omega)⟩
theorem zs_203_6 {p v tra : Int32} (hp : 0 ≤ p.toInt ∧ p.toInt < 6) (k67 : (m.1 67 p.toInt.toNat).toInt = 6) (t68 : m.1 68 p.toInt.toNat = tra) {r : Int} (hr : r ≤ 30) (h0 : zrn m r) {Q : Int32 → zf_Me → Prop} (hq : zrn (zru (zru (zru m 70) 51) 10) (r + 4) → Q (((v + p) - p) * 2) (zru (zru (zru m 70) 51) 10)) : wp_203 p v m Q :=
  ⟨hp, fun z => absurd k67 z, fun _ => zs_202x (b := 70) rfl (by omega) h0 (fun h1 => ⟨fun z => absurd z (by omega), fun _ => ⟨fun z => absurd k67 z, fun _ => zs_202x (b := 51) rfl (by omega) h1 (fun h2 => ⟨fun z => absurd z (by omega), fun _ => ⟨fun _ => zs_202x (b := 10) rfl (by omega) h2 (fun h3 => ⟨fun z => absurd z (by omega), fun _ => ⟨fun _ => ⟨fun z => absurd z (by omega), fun _ => ⟨fun z => absurd k67 z, fun _ => ⟨fun z => absurd k67 z, fun _ => hq (zrn_le h3 (by omega))⟩⟩⟩, fun z => absurd z (by omega)⟩⟩), fun z => absurd z (by omega)⟩⟩)⟩⟩)⟩
theorem zs_203x {p v tra : Int32} {k : Nat} (hk : k < 7) (hp : 0 ≤ p.toInt ∧ p.toInt < 6) (k67 : (m.1 67 p.toInt.toNat).toInt = k) (t68 : m.1 68 p.toInt.toNat = tra) {r : Int} (hr : r ≤ 30) (h0 : zrn m r) {Q : Int32 → zf_Me → Prop} (hq : Q (zmv k 0 p tra v).1 (zrus m (zmv k 0 p tra v).2)) : wp_203 p v m Q := by
  have c : k = 0 ∨ k = 1 ∨ k = 2 ∨ k = 3 ∨ k = 4 ∨ k = 5 ∨ k = 6 := by omega
  rcases c with rfl | rfl | rfl | rfl | rfl | rfl | rfl
  · rw [zmv_0_0] at hq
    simp only [zrus_cons, zrus_nil] at hq
    exact zs_203_0 hp k67 t68 hr h0 (fun _ => hq)
  · rw [zmv_1_0] at hq
    simp only [zrus_cons, zrus_nil] at hq
    exact zs_203_1 hp k67 t68 hr h0 (fun _ => hq)
  · rw [zmv_2_0] at hq
    simp only [zrus_cons, zrus_nil] at hq
    exact zs_203_2 hp k67 t68 hr h0 (fun _ => hq)
  · rw [zmv_3_0] at hq
    simp only [zrus_cons, zrus_nil] at hq
    exact zs_203_3 hp k67 t68 hr h0 (fun _ => hq)
  · rw [zmv_4_0] at hq
    simp only [zrus_cons, zrus_nil] at hq
    exact zs_203_4 hp k67 t68 hr h0 (fun _ => hq)
  · rw [zmv_5_0] at hq
    simp only [zrus_cons, zrus_nil] at hq
    exact zs_203_5 hp k67 t68 hr h0 (fun _ => hq)
  · rw [zmv_6_0] at hq
    simp only [zrus_cons, zrus_nil] at hq
    exact zs_203_6 hp k67 t68 hr h0 (fun _ => hq)
theorem zs_204_0 {p v tra : Int32} (hp : 0 ≤ p.toInt ∧ p.toInt < 6) (k67 : (m.1 67 p.toInt.toNat).toInt = 0) (t68 : m.1 68 p.toInt.toNat = tra) {r : Int} (hr : r ≤ 20) (h0 : zrn m r) {Q : Int32 → zf_Me → Prop} (hq : zrn (zru (zru m 11) 10) (r + 8) → Q ((v + p) * 2) (zru (zru m 11) 10)) : wp_204 p v m Q :=
  ⟨hp, fun _ => ⟨fun _ => ⟨fun z => absurd z (by omega), fun _ => ⟨fun _ => ⟨fun _ => zs_202x (b := 11) rfl (by omega) h0 (fun h1 => zs_203_0 (tra := tra) hp (by rw [zru_a (by decide)]; exact k67) (by rw [zru_a (by decide)]; exact t68) (by omega) h1 (fun h2 => ⟨fun _ => hq (zrn_le h2 (by omega)), fun z => absurd rfl z⟩)), fun z => absurd rfl z⟩, fun z => absurd z (by omega)⟩⟩, fun z => absurd z (by omega)⟩, fun z => absurd z (by omega)⟩
theorem zs_204_1 {p v tra : Int32} (hp : 0 ≤ p.toInt ∧ p.toInt < 6) (k67 : (m.1 67 p.toInt.toNat).toInt = 1) (t68 : m.1 68 p.toInt.toNat = tra) {r : Int} (hr : r ≤ 20) (h0 : zrn m r) {Q : Int32 → zf_Me → Prop} (hq : zrn (zru (zru (zru m 11) 20) 10) (r + 8) → Q (((v + p) + tra) * 2) (zru (zru (zru m 11) 20) 10)) : wp_204 p v m Q :=
  ⟨hp, fun _ => ⟨fun _ => ⟨fun z => absurd z (by omega), fun _ => ⟨fun _ => ⟨fun _ => zs_202x (b := 11) rfl (by omega) h0 (fun h1 => zs_203_1 (tra := tra) hp (by rw [zru_a (by decide)]; exact k67) (by rw [zru_a (by decide)]; exact t68) (by omega) h1 (fun h2 => ⟨fun _ => hq (zrn_le h2 (by omega)), fun z => absurd rfl z⟩)), fun z => absurd rfl z⟩, fun z => absurd z (by omega)⟩⟩, fun z => absurd z (by omega)⟩, fun z => absurd z (by omega)⟩
theorem zs_204_2 {p v tra : Int32} (hp : 0 ≤ p.toInt ∧ p.toInt < 6) (k67 : (m.1 67 p.toInt.toNat).toInt = 2) (t68 : m.1 68 p.toInt.toNat = tra) {r : Int} (hr : r ≤ 20) (h0 : zrn m r) {Q : Int32 → zf_Me → Prop} (hq : zrn (zru (zru (zru m 30) 11) 10) (r + 8) → Q (((v + p) * 2) * 3) (zru (zru (zru m 30) 11) 10)) : wp_204 p v m Q :=
  ⟨hp, fun _ => ⟨fun _ => ⟨fun _ => ⟨fun z => absurd z (by decide), fun _ => zs_202x (b := 30) rfl (by omega) h0 (fun h1 => zs_202x (b := 11) rfl (by omega) h1 (fun h2 => zs_203_2 (tra := tra) hp (by rw [zru_a (by decide), zru_a (by decide)]; exact k67) (by rw [zru_a (by decide), zru_a (by decide)]; exact t68) (by omega) h2 (fun h3 => ⟨fun z => absurd z (by decide), fun _ => hq (zrn_le h3 (by omega))⟩)))⟩, fun z => absurd k67 z⟩, fun z => absurd z (by omega)⟩, fun z => absurd z (by omega)⟩
theorem zs_204_3 {p v tra : Int32} (hp : 0 ≤ p.toInt ∧ p.toInt < 6) (k67 : (m.1 67 p.toInt.toNat).toInt = 3) (t68 : m.1 68 p.toInt.toNat = tra) {r : Int} (hr : r ≤ 20) (h0 : zrn m r) {Q : Int32 → zf_Me → Prop} (hq : zrn (zru (zru (zru (zru m 40) 11) 20) 10) (r + 8) → Q ((((v + 1) + p) + tra) * 2) (zru (zru (zru (zru m 40) 11) 20) 10)) : wp_204 p v m Q :=
  ⟨hp, fun _ => ⟨fun z => absurd k67 z, fun _ => zs_202x (b := 40) rfl (by omega) h0 (fun h1 => ⟨fun z => absurd z (by omega), fun _ => ⟨fun _ => ⟨fun _ => zs_202x (b := 11) rfl (by omega) h1 (fun h2 => zs_203_3 (tra := tra) hp (by rw [zru_a (by decide), zru_a (by decide)]; exact k67) (by rw [zru_a (by decide), zru_a (by decide)]; exact t68) (by omega) h2 (fun h3 => ⟨fun _ => hq (zrn_le h3 (by omega)), fun z => absurd rfl z⟩)), fun z => absurd rfl z⟩, fun z => absurd z (by omega)⟩⟩)⟩, fun z => absurd z (by omega)⟩
theorem zs_204_4 {p v tra : Int32} (hp : 0 ≤ p.toInt ∧ p.toInt < 6) (k67 : (m.1 67 p.toInt.toNat).toInt = 4) (t68 : m.1 68 p.toInt.toNat = tra) {r : Int} (hr : r ≤ 20) (h0 : zrn m r) {Q : Int32 → zf_Me → Prop} (hq : zrn (zru (zru (zru m 11) 51) 10) (r + 8) → Q (((v + p) - p) * 2) (zru (zru (zru m 11) 51) 10)) : wp_204 p v m Q :=
  ⟨hp, fun _ => ⟨fun _ => ⟨fun z => absurd z (by omega), fun _ => ⟨fun _ => ⟨fun _ => zs_202x (b := 11) rfl (by omega) h0 (fun h1 => zs_203_4 (tra := tra) hp (by rw [zru_a (by decide)]; exact k67) (by rw [zru_a (by decide)]; exact t68) (by omega) h1 (fun h2 => ⟨fun _ => hq (zrn_le h2 (by omega)), fun z => absurd rfl z⟩)), fun z => absurd rfl z⟩, fun z => absurd z (by omega)⟩⟩, fun z => absurd z (by omega)⟩, fun z => absurd z (by omega)⟩
theorem zs_204_5 {p v tra : Int32} (hp : 0 ≤ p.toInt ∧ p.toInt < 6) (k67 : (m.1 67 p.toInt.toNat).toInt = 5) (t68 : m.1 68 p.toInt.toNat = tra) {r : Int} (hr : r ≤ 20) (h0 : zrn m r) {Q : Int32 → zf_Me → Prop} (hq : zrn (zru (zru (zru m 30) 11) 10) (r + 8) → Q (((v + p) * 2) * 3) (zru (zru (zru m 30) 11) 10)) : wp_204 p v m Q :=
  ⟨hp, fun _ => ⟨fun _ => ⟨fun z => absurd z (by omega), fun _ => ⟨fun z => absurd k67 z, fun _ => ⟨fun z => absurd z (by decide), fun _ => zs_202x (b := 30) rfl (by omega) h0 (fun h1 => zs_202x (b := 11) rfl (by omega) h1 (fun h2 => zs_203_5 (tra := tra) hp (by rw [zru_a (by decide), zru_a (by decide)]; exact k67) (by rw [zru_a (by decide), zru_a (by decide)]; exact t68) (by omega) h2 (fun h3 => ⟨fun z => absurd z (by decide), fun _ => hq (zrn_le h3 (by omega))⟩)))⟩⟩⟩, fun z => absurd z (by omega)⟩, fun z => absurd z (by omega)⟩
theorem zs_204_6 {p v tra : Int32} (hp : 0 ≤ p.toInt ∧ p.toInt < 6) (k67 : (m.1 67 p.toInt.toNat).toInt = 6) (t68 : m.1 68 p.toInt.toNat = tra) {r : Int} (hr : r ≤ 20) (h0 : zrn m r) {Q : Int32 → zf_Me → Prop} (hq : zrn (zru (zru (zru (zru (zru m 71) 11) 70) 51) 10) (r + 8) → Q (((((v - tra) + p) - p) * 2) * 2) (zru (zru (zru (zru (zru m 71) 11) 70) 51) 10)) : wp_204 p v m Q :=
  ⟨hp, fun z => absurd k67 z, fun _ => zs_202x (b := 71) rfl (by omega) h0 (fun h1 => ⟨hp, by rw [zru_a (by decide), t68]; exact ⟨fun _ => ⟨fun z => absurd z (by omega), fun _ => ⟨fun _ => ⟨fun _ => zs_202x (b := 11) rfl (by omega) h1 (fun h2 => zs_203_6 (tra := tra) hp (by rw [zru_a (by decide), zru_a (by decide)]; exact k67) (by rw [zru_a (by decide), zru_a (by decide)]; exact t68) (by omega) h2 (fun h3 => ⟨fun _ => hq (zrn_le h3 (by omega)), fun z => absurd rfl z⟩)), fun z => absurd rfl z⟩, fun z => absurd z (by omega)⟩⟩, fun z => absurd z (by omega)⟩⟩)⟩
theorem zs_204x {p v tra : Int32} {k : Nat} (hk : k < 7) (hp : 0 ≤ p.toInt ∧ p.toInt < 6) (k67 : (m.1 67 p.toInt.toNat).toInt = k) (t68 : m.1 68 p.toInt.toNat = tra) {r : Int} (hr : r ≤ 20) (h0 : zrn m r) {Q : Int32 → zf_Me → Prop} (hq : Q (zmv k 1 p tra v).1 (zrus m (zmv k 1 p tra v).2)) : wp_204 p v m Q := by
  have c : k = 0 ∨ k = 1 ∨ k = 2 ∨ k = 3 ∨ k = 4 ∨ k = 5 ∨ k = 6 := by omega
  rcases c with rfl | rfl | rfl | rfl | rfl | rfl | rfl
  · rw [zmv_0_1] at hq
    simp only [zrus_cons, zrus_nil] at hq
    exact zs_204_0 hp k67 t68 hr h0 (fun _ => hq)
  · rw [zmv_1_1] at hq
    simp only [zrus_cons, zrus_nil] at hq
    exact zs_204_1 hp k67 t68 hr h0 (fun _ => hq)
  · rw [zmv_2_1] at hq
    simp only [zrus_cons, zrus_nil] at hq
    exact zs_204_2 hp k67 t68 hr h0 (fun _ => hq)
  · rw [zmv_3_1] at hq
    simp only [zrus_cons, zrus_nil] at hq
    exact zs_204_3 hp k67 t68 hr h0 (fun _ => hq)
  · rw [zmv_4_1] at hq
    simp only [zrus_cons, zrus_nil] at hq
    exact zs_204_4 hp k67 t68 hr h0 (fun _ => hq)
  · rw [zmv_5_1] at hq
    simp only [zrus_cons, zrus_nil] at hq
    exact zs_204_5 hp k67 t68 hr h0 (fun _ => hq)
  · rw [zmv_6_1] at hq
    simp only [zrus_cons, zrus_nil] at hq
    exact zs_204_6 hp k67 t68 hr h0 (fun _ => hq)
theorem zs_205_0 {p v tra : Int32} (hp : 0 ≤ p.toInt ∧ p.toInt < 6) (k67 : (m.1 67 p.toInt.toNat).toInt = 0) (t68 : m.1 68 p.toInt.toNat = tra) {r : Int} (hr : r ≤ 0) (h0 : zrn m r) {Q : Int32 → zf_Me → Prop} (hq : zrn (zru (zru (zru (zru m 12) 11) 10) 10) (r + 20) → Q (((v + p) * 2) ^^^ ((v - tra) + p)) (zru (zru (zru (zru m 12) 11) 10) 10)) : wp_205 p v m Q :=
  ⟨hp, fun z => absurd z (by omega), fun _ => ⟨fun _ => ⟨fun _ => zs_202x (b := 12) rfl (by omega) h0 (fun h1 => zs_204_0 (tra := tra) hp (by rw [zru_a (by decide)]; exact k67) (by rw [zru_a (by decide)]; exact t68) (by omega) h1 (fun h2 => ⟨hp, by rw [zru_a (by decide), zru_a (by decide), zru_a (by decide), t68]; exact zs_203_0 (tra := tra) hp (by rw [zru_a (by decide), zru_a (by decide), zru_a (by decide)]; exact k67) (by rw [zru_a (by decide), zru_a (by decide), zru_a (by decide)]; exact t68) (by omega) h2 (fun h3 => ⟨fun z => absurd z (by omega), fun _ => ⟨fun _ => ⟨fun _ => hq (zrn_le h3 (by omega)), fun z => absurd z (by omega)⟩, fun z => absurd z (by omega)⟩⟩)⟩)), fun z => absurd z (by omega)⟩, fun z => absurd z (by omega)⟩⟩
theorem zs_205_1 {p v tra : Int32} (hp : 0 ≤ p.toInt ∧ p.toInt < 6) (k67 : (m.1 67 p.toInt.toNat).toInt = 1) (t68 : m.1 68 p.toInt.toNat = tra) {r : Int} (hr : r ≤ 0) (h0 : zrn m r) {Q : Int32 → zf_Me → Prop} (hq : zrn (zru (zru (zru (zru (zru (zru m 12) 11) 20) 10) 20) 10) (r + 20) → Q ((((v + p) + tra) * 2) ^^^ (((v - tra) + p) + tra)) (zru (zru (zru (zru (zru (zru m 12) 11) 20) 10) 20) 10)) : wp_205 p v m Q :=
  ⟨hp, fun z => absurd z (by omega), fun _ => ⟨fun _ => ⟨fun _ => zs_202x (b := 12) rfl (by omega) h0 (fun h1 => zs_204_1 (tra := tra) hp (by rw [zru_a (by decide)]; exact k67) (by rw [zru_a (by decide)]; exact t68) (by omega) h1 (fun h2 => ⟨hp, by rw [zru_a (by decide), zru_a (by decide), zru_a (by decide), zru_a (by decide), t68]; exact zs_203_1 (tra := tra) hp (by rw [zru_a (by decide), zru_a (by decide), zru_a (by decide), zru_a (by decide)]; exact k67) (by rw [zru_a (by decide), zru_a (by decide), zru_a (by decide), zru_a (by decide)]; exact t68) (by omega) h2 (fun h3 => ⟨fun z => absurd z (by omega), fun _ => ⟨fun _ => ⟨fun _ => hq (zrn_le h3 (by omega)), fun z => absurd z (by omega)⟩, fun z => absurd z (by omega)⟩⟩)⟩)), fun z => absurd z (by omega)⟩, fun z => absurd z (by omega)⟩⟩
theorem zs_205_2 {p v tra : Int32} (hp : 0 ≤ p.toInt ∧ p.toInt < 6) (k67 : (m.1 67 p.toInt.toNat).toInt = 2) (t68 : m.1 68 p.toInt.toNat = tra) {r : Int} (hr : r ≤ 0) (h0 : zrn m r) {Q : Int32 → zf_Me → Prop} (hq : zrn (zru (zru (zru (zru (zru m 12) 30) 11) 10) 10) (r + 20) → Q ((((v + p) * 2) * 3) ^^^ ((v - tra) + p)) (zru (zru (zru (zru (zru m 12) 30) 11) 10) 10)) : wp_205 p v m Q :=
  ⟨hp, fun z => absurd z (by omega), fun _ => ⟨fun _ => ⟨fun _ => zs_202x (b := 12) rfl (by omega) h0 (fun h1 => zs_204_2 (tra := tra) hp (by rw [zru_a (by decide)]; exact k67) (by rw [zru_a (by decide)]; exact t68) (by omega) h1 (fun h2 => ⟨hp, by rw [zru_a (by decide), zru_a (by decide), zru_a (by decide), zru_a (by decide), t68]; exact zs_203_2 (tra := tra) hp (by rw [zru_a (by decide), zru_a (by decide), zru_a (by decide), zru_a (by decide)]; exact k67) (by rw [zru_a (by decide), zru_a (by decide), zru_a (by decide), zru_a (by decide)]; exact t68) (by omega) h2 (fun h3 => ⟨fun z => absurd z (by omega), fun _ => ⟨fun _ => ⟨fun _ => hq (zrn_le h3 (by omega)), fun z => absurd z (by omega)⟩, fun z => absurd z (by omega)⟩⟩)⟩)), fun z => absurd z (by omega)⟩, fun z => absurd z (by omega)⟩⟩
theorem zs_205_3 {p v tra : Int32} (hp : 0 ≤ p.toInt ∧ p.toInt < 6) (k67 : (m.1 67 p.toInt.toNat).toInt = 3) (t68 : m.1 68 p.toInt.toNat = tra) {r : Int} (hr : r ≤ 0) (h0 : zrn m r) {Q : Int32 → zf_Me → Prop} (hq : zrn (zru (zru (zru (zru (zru (zru (zru m 12) 40) 11) 20) 10) 20) 10) (r + 20) → Q (((((v + 1) + p) + tra) * 2) ^^^ (((v - tra) + p) + tra)) (zru (zru (zru (zru (zru (zru (zru m 12) 40) 11) 20) 10) 20) 10)) : wp_205 p v m Q :=
  ⟨hp, fun z => absurd z (by omega), fun _ => ⟨fun _ => ⟨fun _ => zs_202x (b := 12) rfl (by omega) h0 (fun h1 => zs_204_3 (tra := tra) hp (by rw [zru_a (by decide)]; exact k67) (by rw [zru_a (by decide)]; exact t68) (by omega) h1 (fun h2 => ⟨hp, by rw [zru_a (by decide), zru_a (by decide), zru_a (by decide), zru_a (by decide), zru_a (by decide), t68]; exact zs_203_3 (tra := tra) hp (by rw [zru_a (by decide), zru_a (by decide), zru_a (by decide), zru_a (by decide), zru_a (by decide)]; exact k67) (by rw [zru_a (by decide), zru_a (by decide), zru_a (by decide), zru_a (by decide), zru_a (by decide)]; exact t68) (by omega) h2 (fun h3 => ⟨fun z => absurd z (by omega), fun _ => ⟨fun _ => ⟨fun _ => hq (zrn_le h3 (by omega)), fun z => absurd z (by omega)⟩, fun z => absurd z (by omega)⟩⟩)⟩)), fun z => absurd z (by omega)⟩, fun z => absurd z (by omega)⟩⟩
theorem zs_205_4 {p v tra : Int32} (hp : 0 ≤ p.toInt ∧ p.toInt < 6) (k67 : (m.1 67 p.toInt.toNat).toInt = 4) (t68 : m.1 68 p.toInt.toNat = tra) {r : Int} (hr : r ≤ 0) (h0 : zrn m r) {Q : Int32 → zf_Me → Prop} (hq : zrn (zru (zru (zru (zru (zru (zru (zru m 50) 12) 11) 51) 10) 51) 10) (r + 20) → Q (-((((v + p) - p) * 2) ^^^ (((v - tra) + p) - p))) (zru (zru (zru (zru (zru (zru (zru m 50) 12) 11) 51) 10) 51) 10)) : wp_205 p v m Q :=
  ⟨hp, fun _ => zs_202x (b := 50) rfl (by omega) h0 (fun h1 => ⟨fun _ => zs_202x (b := 12) rfl (by omega) h1 (fun h2 => zs_204_4 (tra := tra) hp (by rw [zru_a (by decide), zru_a (by decide)]; exact k67) (by rw [zru_a (by decide), zru_a (by decide)]; exact t68) (by omega) h2 (fun h3 => ⟨hp, by rw [zru_a (by decide), zru_a (by decide), zru_a (by decide), zru_a (by decide), zru_a (by decide), t68]; exact zs_203_4 (tra := tra) hp (by rw [zru_a (by decide), zru_a (by decide), zru_a (by decide), zru_a (by decide), zru_a (by decide)]; exact k67) (by rw [zru_a (by decide), zru_a (by decide), zru_a (by decide), zru_a (by decide), zru_a (by decide)]; exact t68) (by omega) h3 (fun h4 => ⟨fun _ => hq (zrn_le h4 (by omega)), fun z => absurd k67 z⟩)⟩)), fun z => absurd z (by omega)⟩), fun z => absurd k67 z⟩
theorem zs_205_5 {p v tra : Int32} (hp : 0 ≤ p.toInt ∧ p.toInt < 6) (k67 : (m.1 67 p.toInt.toNat).toInt = 5) (t68 : m.1 68 p.toInt.toNat = tra) {r : Int} (hr : r ≤ 0) (h0 : zrn m r) {Q : Int32 → zf_Me → Prop} (hq : zrn (zru (zru (zru (zru (zru (zru m 60) 12) 30) 11) 10) 10) (r + 20) → Q (((((v + p) * 2) * 3) ^^^ ((v - tra) + p)) ^^^ 5) (zru (zru (zru (zru (zru (zru m 60) 12) 30) 11) 10) 10)) : wp_205 p v m Q :=
  ⟨hp, fun z => absurd z (by omega), fun _ => ⟨fun _ => ⟨fun z => absurd k67 z, fun _ => zs_202x (b := 60) rfl (by omega) h0 (fun h1 => zs_202x (b := 12) rfl (by omega) h1 (fun h2 => zs_204_5 (tra := tra) hp (by rw [zru_a (by decide), zru_a (by decide)]; exact k67) (by rw [zru_a (by decide), zru_a (by decide)]; exact t68) (by omega) h2 (fun h3 => ⟨hp, by rw [zru_a (by decide), zru_a (by decide), zru_a (by decide), zru_a (by decide), zru_a (by decide), t68]; exact zs_203_5 (tra := tra) hp (by rw [zru_a (by decide), zru_a (by decide), zru_a (by decide), zru_a (by decide), zru_a (by decide)]; exact k67) (by rw [zru_a (by decide), zru_a (by decide), zru_a (by decide), zru_a (by decide), zru_a (by decide)]; exact t68) (by omega) h3 (fun h4 => ⟨fun z => absurd z (by omega), fun _ => ⟨fun _ => ⟨fun z => absurd k67 z, fun _ => hq (zrn_le h4 (by omega))⟩, fun z => absurd z (by omega)⟩⟩)⟩)))⟩, fun z => absurd z (by omega)⟩⟩
theorem zs_205_6 {p v tra : Int32} (hp : 0 ≤ p.toInt ∧ p.toInt < 6) (k67 : (m.1 67 p.toInt.toNat).toInt = 6) (t68 : m.1 68 p.toInt.toNat = tra) {r : Int} (hr : r ≤ 0) (h0 : zrn m r) {Q : Int32 → zf_Me → Prop} (hq : zrn (zru (zru (zru (zru (zru (zru (zru (zru (zru (zru m 50) 12) 71) 11) 70) 51) 10) 70) 51) 10) (r + 20) → Q (-((((((v - tra) + p) - p) * 2) * 2) ^^^ ((((v - tra) + p) - p) * 2))) (zru (zru (zru (zru (zru (zru (zru (zru (zru (zru m 50) 12) 71) 11) 70) 51) 10) 70) 51) 10)) : wp_205 p v m Q :=
  ⟨hp, fun z => absurd z (by omega), fun _ => ⟨fun z => absurd k67 z, fun _ => zs_202x (b := 50) rfl (by omega) h0 (fun h1 => ⟨fun _ => zs_202x (b := 12) rfl (by omega) h1 (fun h2 => zs_204_6 (tra := tra) hp (by rw [zru_a (by decide), zru_a (by decide)]; exact k67) (by rw [zru_a (by decide), zru_a (by decide)]; exact t68) (by omega) h2 (fun h3 => ⟨hp, by rw [zru_a (by decide), zru_a (by decide), zru_a (by decide), zru_a (by decide), zru_a (by decide), zru_a (by decide), zru_a (by decide), t68]; exact zs_203_6 (tra := tra) hp (by rw [zru_a (by decide), zru_a (by decide), zru_a (by decide), zru_a (by decide), zru_a (by decide), zru_a (by decide), zru_a (by decide)]; exact k67) (by rw [zru_a (by decide), zru_a (by decide), zru_a (by decide), zru_a (by decide), zru_a (by decide), zru_a (by decide), zru_a (by decide)]; exact t68) (by omega) h3 (fun h4 => ⟨fun z => absurd z (by omega), fun _ => ⟨fun z => absurd k67 z, fun _ => hq (zrn_le h4 (by omega))⟩⟩)⟩)), fun z => absurd z (by omega)⟩)⟩⟩
theorem zs_205x {p v tra : Int32} {k : Nat} (hk : k < 7) (hp : 0 ≤ p.toInt ∧ p.toInt < 6) (k67 : (m.1 67 p.toInt.toNat).toInt = k) (t68 : m.1 68 p.toInt.toNat = tra) {r : Int} (hr : r ≤ 0) (h0 : zrn m r) {Q : Int32 → zf_Me → Prop} (hq : Q (zmv k 2 p tra v).1 (zrus m (zmv k 2 p tra v).2)) : wp_205 p v m Q := by
  have c : k = 0 ∨ k = 1 ∨ k = 2 ∨ k = 3 ∨ k = 4 ∨ k = 5 ∨ k = 6 := by omega
  rcases c with rfl | rfl | rfl | rfl | rfl | rfl | rfl
  · rw [zmv_0_2] at hq
    simp only [zrus_cons, zrus_nil] at hq
    exact zs_205_0 hp k67 t68 hr h0 (fun _ => hq)
  · rw [zmv_1_2] at hq
    simp only [zrus_cons, zrus_nil] at hq
    exact zs_205_1 hp k67 t68 hr h0 (fun _ => hq)
  · rw [zmv_2_2] at hq
    simp only [zrus_cons, zrus_nil] at hq
    exact zs_205_2 hp k67 t68 hr h0 (fun _ => hq)
  · rw [zmv_3_2] at hq
    simp only [zrus_cons, zrus_nil] at hq
    exact zs_205_3 hp k67 t68 hr h0 (fun _ => hq)
  · rw [zmv_4_2] at hq
    simp only [zrus_cons, zrus_nil] at hq
    exact zs_205_4 hp k67 t68 hr h0 (fun _ => hq)
  · rw [zmv_5_2] at hq
    simp only [zrus_cons, zrus_nil] at hq
    exact zs_205_5 hp k67 t68 hr h0 (fun _ => hq)
  · rw [zmv_6_2] at hq
    simp only [zrus_cons, zrus_nil] at hq
    exact zs_205_6 hp k67 t68 hr h0 (fun _ => hq)
theorem zG_206 (hJ : JM m) {p w v : Int32} {Q : Int32 → zf_Me → Prop} (K : ∀ m', zgE m m' → zTR m' (zN104 (zr m) p w v).2 → Q (zN104 (zr m) p w v).1 m') : wp_206 p w v m Q := by
  intro m1 q1
  have f1 : zgE m m1 := by
    rw [q1]
    exact zgE_u zgr_refl (by omega)
  have z1 : zr m1 = zr m := zr_of f1 (fun a k z => by omega)
  have b := zB_r hJ.1
  have p6 : zr m 5 6 = (m.1 63 1).toInt := rfl
  have c1 : m1.1 63 1 = m.1 63 1 := f1.1 63 1 (by omega)
  have r0 : (m1.1 63 51).toInt = ((0 : Nat) : Int) := by rw [q1, zf_u3]; rfl
  have r : zrn m1 0 := by
    unfold zrn
    rw [r0]
    decide
  have no : ¬ (0 ≤ p.toInt ∧ p.toInt < zr m 5 6) ∨ ¬ (0 ≤ w.toInt ∧ w.toInt < 3) → Q 0 m1 := fun g => by
    have e : zN104 (zr m) p w v = (0, []) := if_pos g
    rw [e] at K
    exact K m1 f1 ⟨r0, fun i _ z => absurd z (Nat.not_lt_zero i)⟩
  refine zs_128 (fun g => ⟨fun z => (nomatch z), fun _ => ⟨fun z => no (Or.inr (by omega)), fun g2 => ⟨fun g3 => ?_, fun z => no (Or.inr (by omega))⟩⟩⟩) (fun g => ⟨fun _ => no (Or.inl (by rw [c1] at g; exact g)), fun z => (nomatch z)⟩)
  rw [c1] at g
  have b3 := zB_r3 hJ.1 (k := p.toInt.toNat) (by omega)
  have a2 : zr m 2 p.toInt.toNat = (m.1 67 p.toInt.toNat).toInt := zN_lt (by omega)
  have a3 : zr m 3 p.toInt.toNat = (m.1 68 p.toInt.toNat).toInt := zN_lt (by omega)
  have e : zN104 (zr m) p w v = zmv (m.1 67 p.toInt.toNat).toInt.toNat w.toInt.toNat p (m.1 68 p.toInt.toNat) v := by
    unfold zN104
    rw [if_neg (by omega), a2, a3, Int32.ofInt_toInt]
  rw [e] at K
  have ok := (zmv_eq (own := (m.1 67 p.toInt.toNat).toInt.toNat) (v := w.toInt.toNat) (by omega) (by omega) p (m.1 68 p.toInt.toNat) v).2
  have k67 : (m1.1 67 p.toInt.toNat).toInt = (((m.1 67 p.toInt.toNat).toInt.toNat : Nat) : Int) := by
    rw [f1.1 67 _ (by omega)]
    omega
  have t68 : m1.1 68 p.toInt.toNat = m.1 68 p.toInt.toNat := f1.1 68 _ (by omega)
  have fin : Q (zmv (m.1 67 p.toInt.toNat).toInt.toNat w.toInt.toNat p (m.1 68 p.toInt.toNat) v).1 (zrus m1 (zmv (m.1 67 p.toInt.toNat).toInt.toNat w.toInt.toNat p (m.1 68 p.toInt.toNat) v).2) := by
    have c := zrus_c (zmv (m.1 67 p.toInt.toNat).toInt.toNat w.toInt.toNat p (m.1 68 p.toInt.toNat) v).2 r0 (by omega)
    refine K _ (zgE_t f1 (zrus_f _)) ⟨?_, fun i i1 i2 => ?_⟩
    · rw [c.1]
      omega
    · rw [c.2 i i1 (by omega), if_neg (Nat.not_lt_zero i)]
      rfl
  have hp : 0 ≤ p.toInt ∧ p.toInt < 6 := by omega
  have k7 : (m.1 67 p.toInt.toNat).toInt.toNat < 7 := by omega
  refine ⟨fun n0 => ⟨fun n1 => ?_, fun e1 => ?_⟩, fun e0 => ?_⟩
  · rw [show w.toInt.toNat = 2 by omega] at fin
    exact zs_205x k7 hp k67 t68 (Int.le_refl 0) r fin
  · rw [show w.toInt.toNat = 1 by omega] at fin
    exact zs_204x k7 hp k67 t68 (by decide) r fin
  · rw [show w.toInt.toNat = 0 by omega] at fin
    exact zs_203x k7 hp k67 t68 (by decide) r fin
theorem zA_108 (hJ : JX m) {w : Int32} {Q : Int32 → zf_Me → Prop} (K : ∀ v, Q v m) : wp_108 w m Q := by
  have e6 : (6 : Int32).toInt = 6 := rfl
  have e10 : (10 : Int32).toInt = 10 := rfl
  have t46 : wq_108_46 w m Q := ⟨fun _ => K _, fun _ => K _, fun _ => K _, fun _ => K _, fun _ => K _, fun _ => K _, fun _ => K _, fun _ => K _, fun _ => K _, fun _ => K _, fun _ => K _, fun _ => K _, fun _ => K _, fun _ => K _, fun _ => K _, fun _ => K _, fun _ => K _, fun _ => K _, fun _ => K _, fun _ => K _, fun _ => K _, fun _ => zs_48 (fun b _ => ⟨fun _ => K _, fun _ => K _⟩)⟩
  have t24 : wq_108_24 w m Q := by
    refine ⟨fun _ => t46, fun g => ⟨fun _ => t46, fun g2 => ?_⟩⟩
    have s := fb_subI (x := w) (y := 10) (by omega) (by omega)
    exact ⟨by omega, K _⟩
  refine ⟨fun _ => t24, fun g => ⟨fun _ => t24, fun g2 => ?_⟩⟩
  have s := fb_subI (x := w) (y := 6) (by omega) (by omega)
  exact zs_45 (w := 2) (y := 3) (r := 8) (by omega) (fun x _ => K _)
theorem zG_210 (hJ : JM m) {w : Int32} {Q : Int32 → zf_Me → Prop} (K : ∀ v, Q v m) : wp_210 w m Q := by
  have e6 : (6 : Int32).toInt = 6 := rfl
  have e10 : (10 : Int32).toInt = 10 := rfl
  have t43 : wq_210_43 w m Q := ⟨fun _ => K _, fun _ => K _, fun _ => K _, fun _ => K _, fun _ => K _, fun _ => K _, fun _ => K _, fun _ => K _, fun _ => K _, fun _ => K _, fun _ => K _, fun _ => K _, fun _ => K _, fun _ => K _, fun _ => K _, fun _ => K _, fun _ => K _, fun _ => K _, fun _ => K _, fun _ => K _, fun _ => K _, fun _ => zs_164 (fun b _ => ⟨fun _ => K _, fun _ => K _⟩)⟩
  have t22 : wq_210_22 w m Q := by
    refine ⟨fun _ => t43, fun g => ⟨fun _ => t43, fun g2 => ?_⟩⟩
    have s := fb_subI (x := w) (y := 6) (by omega) (by omega)
    exact zs_147 (by omega) (fun x _ => K _)
  refine ⟨fun _ => t22, fun g => ⟨fun _ => t22, fun g2 => ?_⟩⟩
  have s := fb_subI (x := w) (y := 10) (by omega) (by omega)
  exact ⟨by omega, K _⟩
end
