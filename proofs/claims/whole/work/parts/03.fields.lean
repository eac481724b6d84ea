theorem inF0 : ∀ w ∈ u_ws RX0 TX0 7, w ∈ LW := fun w hw => by
  obtain ⟨k, hk, rfl⟩ := List.mem_map.mp hw
  have hk := List.mem_range.mp hk
  match k, hk with
  | 0, _ => exact lwt1 92 rfl rfl
  | 1, _ => exact lwt1 94 rfl rfl
  | 2, _ => exact lwt1 96 rfl rfl
  | 3, _ => exact lwt1 98 rfl rfl
  | 4, _ => exact lwt1 100 rfl rfl
  | 5, _ => exact lwt1 102 rfl rfl
  | 6, _ => exact lwt1 104 rfl rfl
  | n + 7, h => exact absurd h (by omega)
theorem inF1 : ∀ w ∈ u_ws RX1 TX1 5, w ∈ LW := fun w hw => by
  obtain ⟨k, hk, rfl⟩ := List.mem_map.mp hw
  have hk := List.mem_range.mp hk
  match k, hk with
  | 0, _ => exact lwt1 128 rfl rfl
  | 1, _ => exact lwt1 130 rfl rfl
  | 2, _ => exact lwt1 132 rfl rfl
  | 3, _ => exact lwt1 134 rfl rfl
  | 4, _ => exact lwt1 136 rfl rfl
  | n + 5, h => exact absurd h (by omega)
theorem inF2 : ∀ w ∈ u_ws RX2 TX2 11, w ∈ LW := fun w hw => by
  obtain ⟨k, hk, rfl⟩ := List.mem_map.mp hw
  have hk := List.mem_range.mp hk
  match k, hk with
  | 0, _ => exact lwt2 10 rfl rfl
  | 1, _ => exact lwt2 12 rfl rfl
  | 2, _ => exact lwt2 14 rfl rfl
  | 3, _ => exact lwt2 16 rfl rfl
  | 4, _ => exact lwt2 18 rfl rfl
  | 5, _ => exact lwt2 20 rfl rfl
  | 6, _ => exact lwt2 22 rfl rfl
  | 7, _ => exact lwt2 24 rfl rfl
  | 8, _ => exact lwt2 26 rfl rfl
  | 9, _ => exact lwt2 28 rfl rfl
  | 10, _ => exact lwt2 30 rfl rfl
  | n + 11, h => exact absurd h (by omega)
theorem inF3 : ∀ w ∈ u_ws RX3 TX3 7, w ∈ LW := fun w hw => by
  obtain ⟨k, hk, rfl⟩ := List.mem_map.mp hw
  have hk := List.mem_range.mp hk
  match k, hk with
  | 0, _ => exact lwt1 50 rfl rfl
  | 1, _ => exact lwt1 52 rfl rfl
  | 2, _ => exact lwt1 54 rfl rfl
  | 3, _ => exact lwt1 56 rfl rfl
  | 4, _ => exact lwt1 58 rfl rfl
  | 5, _ => exact lwt1 60 rfl rfl
  | 6, _ => exact lwt1 62 rfl rfl
  | n + 7, h => exact absurd h (by omega)
theorem inF4 : ∀ w ∈ u_ws RX4 TX4 14, w ∈ LW := fun w hw => by
  obtain ⟨k, hk, rfl⟩ := List.mem_map.mp hw
  have hk := List.mem_range.mp hk
  match k, hk with
  | 0, _ => exact lwt1 209 rfl rfl
  | 1, _ => exact lwt1 211 rfl rfl
  | 2, _ => exact lwt1 213 rfl rfl
  | 3, _ => exact lwt1 215 rfl rfl
  | 4, _ => exact lwt1 217 rfl rfl
  | 5, _ => exact lwt1 219 rfl rfl
  | 6, _ => exact lwt1 221 rfl rfl
  | 7, _ => exact lwt1 223 rfl rfl
  | 8, _ => exact lwt1 225 rfl rfl
  | 9, _ => exact lwt1 227 rfl rfl
  | 10, _ => exact lwt1 229 rfl rfl
  | 11, _ => exact lwt1 231 rfl rfl
  | 12, _ => exact lwt1 233 rfl rfl
  | 13, _ => exact lwt1 235 rfl rfl
  | n + 14, h => exact absurd h (by omega)
theorem inF5 : ∀ w ∈ u_ws RX5 TX5 5, w ∈ LW := fun w hw => by
  obtain ⟨k, hk, rfl⟩ := List.mem_map.mp hw
  have hk := List.mem_range.mp hk
  match k, hk with
  | 0, _ => exact lwt1 152 rfl rfl
  | 1, _ => exact lwt1 154 rfl rfl
  | 2, _ => exact lwt1 156 rfl rfl
  | 3, _ => exact lwt1 158 rfl rfl
  | 4, _ => exact lwt1 160 rfl rfl
  | n + 5, h => exact absurd h (by omega)
theorem inF6 : ∀ w ∈ u_ws RX6 TX6 4, w ∈ LW := fun w hw => by
  obtain ⟨k, hk, rfl⟩ := List.mem_map.mp hw
  have hk := List.mem_range.mp hk
  match k, hk with
  | 0, _ => exact lwt2 37 rfl rfl
  | 1, _ => exact lwt2 39 rfl rfl
  | 2, _ => exact lwt2 41 rfl rfl
  | 3, _ => exact lwt2 43 rfl rfl
  | n + 4, h => exact absurd h (by omega)
theorem inF7 : ∀ w ∈ u_ws RX7 TX7 12, w ∈ LW := fun w hw => by
  obtain ⟨k, hk, rfl⟩ := List.mem_map.mp hw
  have hk := List.mem_range.mp hk
  match k, hk with
  | 0, _ => exact lwt3 173 rfl rfl
  | 1, _ => exact lwt3 175 rfl rfl
  | 2, _ => exact lwt3 177 rfl rfl
  | 3, _ => exact lwt3 179 rfl rfl
  | 4, _ => exact lwt3 181 rfl rfl
  | 5, _ => exact lwt3 183 rfl rfl
  | 6, _ => exact lwt3 185 rfl rfl
  | 7, _ => exact lwt3 187 rfl rfl
  | 8, _ => exact lwt3 189 rfl rfl
  | 9, _ => exact lwt3 191 rfl rfl
  | 10, _ => exact lwt3 193 rfl rfl
  | 11, _ => exact lwt3 195 rfl rfl
  | n + 12, h => exact absurd h (by omega)
def pw_nf : Nat → Nat
  | 0 => 7
  | 1 => 5
  | 2 => 11
  | 3 => 7
  | 4 => 14
  | 5 => 5
  | 6 => 4
  | 7 => 12
  | _ => 0
def pw_isR : Nat → Nat → Bool
  | 0, 0 => true
  | 0, 1 => true
  | 2, 0 => true
  | 2, 1 => true
  | 2, 2 => true
  | 2, 3 => true
  | 2, 4 => true
  | 2, 5 => true
  | 2, 6 => true
  | 2, 7 => true
  | 4, 0 => true
  | 4, 1 => true
  | 4, 2 => true
  | 4, 3 => true
  | 4, 4 => true
  | 5, 0 => true
  | 5, 1 => true
  | 5, 2 => true
  | 5, 3 => true
  | 6, 0 => true
  | 6, 1 => true
  | 6, 2 => true
  | 6, 3 => true
  | 7, 0 => true
  | 7, 1 => true
  | 7, 2 => true
  | 7, 3 => true
  | 7, 8 => true
  | 7, 9 => true
  | 7, 10 => true
  | _, _ => false
