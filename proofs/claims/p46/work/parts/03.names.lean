def zF0 : u_T := fun k => match k with
  | _ => ("SluiceStream$Positions", "numbers", "[I", true)
def zY0 : Nat → FieldType := fun k => match k with
  | _ => .array .int
theorem zNm0 : ∀ a, a < 1 → ∀ b, b < 1 → a ≠ b → (zF0 a).2.1 ≠ (zF0 b).2.1 := by decide +kernel
theorem zYo0 : ∀ k, k < 1 → parseFieldDescriptor (zF0 k).2.2.1 = some (zY0 k) := by decide +kernel
def zF1 : u_T := fun k => match k with
  | 0 => ("SluiceStream$Receiver", "held", "LSluiceStream$Positions;", true)
  | 1 => ("SluiceStream$Receiver", "deliveries", "I", false)
  | 2 => ("SluiceStream$Receiver", "firstMissing", "I", false)
  | _ => ("SluiceStream$Receiver", "readAt", "I", false)
def zY1 : Nat → FieldType := fun k => match k with
  | 0 => .object "SluiceStream$Positions"
  | 1 => .int
  | 2 => .int
  | _ => .int
theorem zNm1 : ∀ a, a < 4 → ∀ b, b < 4 → a ≠ b → (zF1 a).2.1 ≠ (zF1 b).2.1 := by decide +kernel
theorem zYo1 : ∀ k, k < 4 → parseFieldDescriptor (zF1 k).2.2.1 = some (zY1 k) := by decide +kernel
def zF2 : u_T := fun k => match k with
  | 0 => ("SluiceStream$Rows", "columns", "I", true)
  | 1 => ("SluiceStream$Rows", "cells", "[I", true)
  | _ => ("SluiceStream$Rows", "size", "I", false)
def zY2 : Nat → FieldType := fun k => match k with
  | 0 => .int
  | 1 => .array .int
  | _ => .int
theorem zNm2 : ∀ a, a < 3 → ∀ b, b < 3 → a ≠ b → (zF2 a).2.1 ≠ (zF2 b).2.1 := by decide +kernel
theorem zYo2 : ∀ k, k < 3 → parseFieldDescriptor (zF2 k).2.2.1 = some (zY2 k) := by decide +kernel
def zF3 : u_T := fun k => match k with
  | 0 => ("SluiceStream$Sender", "marks", "LSluiceStream$Positions;", true)
  | 1 => ("SluiceStream$Sender", "timer", "LSluiceStream$Timer;", true)
  | 2 => ("SluiceStream$Sender", "acked", "I", false)
  | 3 => ("SluiceStream$Sender", "toSend", "I", false)
  | 4 => ("SluiceStream$Sender", "sentBelow", "I", false)
  | 5 => ("SluiceStream$Sender", "writtenBytes", "I", false)
  | 6 => ("SluiceStream$Sender", "edgeAt", "I", false)
  | 7 => ("SluiceStream$Sender", "congestion", "I", false)
  | 8 => ("SluiceStream$Sender", "slowFrom", "I", false)
  | 9 => ("SluiceStream$Sender", "limit", "I", false)
  | 10 => ("SluiceStream$Sender", "duplicateCount", "I", false)
  | 11 => ("SluiceStream$Sender", "recoversTo", "I", false)
  | 12 => ("SluiceStream$Sender", "repairsFrom", "I", false)
  | 13 => ("SluiceStream$Sender", "sentCount", "I", false)
  | _ => ("SluiceStream$Sender", "sentAgainCount", "I", false)
def zY3 : Nat → FieldType := fun k => match k with
  | 0 => .object "SluiceStream$Positions"
  | 1 => .object "SluiceStream$Timer"
  | 2 => .int
  | 3 => .int
  | 4 => .int
  | 5 => .int
  | 6 => .int
  | 7 => .int
  | 8 => .int
  | 9 => .int
  | 10 => .int
  | 11 => .int
  | 12 => .int
  | 13 => .int
  | _ => .int
theorem zNm3 : ∀ a, a < 15 → ∀ b, b < 15 → a ≠ b → (zF3 a).2.1 ≠ (zF3 b).2.1 := by decide +kernel
theorem zYo3 : ∀ k, k < 15 → parseFieldDescriptor (zF3 k).2.2.1 = some (zY3 k) := by decide +kernel
def zF4 : u_T := fun k => match k with
  | 0 => ("SluiceStream$Timer", "now", "I", false)
  | 1 => ("SluiceStream$Timer", "span", "I", false)
  | 2 => ("SluiceStream$Timer", "endsAt", "I", false)
  | 3 => ("SluiceStream$Timer", "timedTo", "I", false)
  | 4 => ("SluiceStream$Timer", "smoothed", "I", false)
  | 5 => ("SluiceStream$Timer", "deviation", "I", false)
  | 6 => ("SluiceStream$Timer", "timedSince", "I", false)
  | _ => ("SluiceStream$Timer", "sampled", "Z", false)
def zY4 : Nat → FieldType := fun k => match k with
  | 0 => .int
  | 1 => .int
  | 2 => .int
  | 3 => .int
  | 4 => .int
  | 5 => .int
  | 6 => .int
  | _ => .boolean
theorem zNm4 : ∀ a, a < 8 → ∀ b, b < 8 → a ≠ b → (zF4 a).2.1 ≠ (zF4 b).2.1 := by decide +kernel
theorem zYo4 : ∀ k, k < 8 → parseFieldDescriptor (zF4 k).2.2.1 = some (zY4 k) := by decide +kernel
def zF5 : u_T := fun k => match k with
  | 0 => ("SluiceStream", "values", "[I", true)
  | 1 => ("SluiceStream", "sender", "LSluiceStream$Sender;", true)
  | 2 => ("SluiceStream", "receiver", "LSluiceStream$Receiver;", true)
  | 3 => ("SluiceStream", "segmentList", "LSluiceStream$Rows;", true)
  | _ => ("SluiceStream", "ackList", "LSluiceStream$Rows;", true)
def zY5 : Nat → FieldType := fun k => match k with
  | 0 => .array .int
  | 1 => .object "SluiceStream$Sender"
  | 2 => .object "SluiceStream$Receiver"
  | 3 => .object "SluiceStream$Rows"
  | _ => .object "SluiceStream$Rows"
theorem zNm5 : ∀ a, a < 5 → ∀ b, b < 5 → a ≠ b → (zF5 a).2.1 ≠ (zF5 b).2.1 := by decide +kernel
theorem zYo5 : ∀ k, k < 5 → parseFieldDescriptor (zF5 k).2.2.1 = some (zY5 k) := by decide +kernel
def zT : List Cond := lw_tbl.filter goodWord
