/-- the reference, its arrays by places -/
structure MS where
  cod : Int32
  tape : Nat → Int32
  length : Nat
  faultCode : Int32
  faultPlace : Int32
  blocks : Nat
  journal : Nat
  on : Bool
  cutLeft : Int32
  written : Nat
  texts : Nat → Int32
  textLengths : Nat → Nat
  seriesCount : Nat
  lasts : Nat → Int64
  baseSeries : Nat
  baseLasts : Nat → Int64
  catalogBlocks : Nat
  pointSeries : Nat → Nat
  pointTimes : Nat → Int64
  pointValues : Nat → Int64
  places : Nat → Int32
  hidden : Nat → Int32
  baseHidden : Nat → Int32
  points : Nat
  horizon : Int64
  baseHorizon : Int64
  parcels : Nat → Nat
  parcelBlocks : Nat → Nat
  parcelCount : Nat
  parcelNumber : Nat
  deletes : Nat
  kinds : Nat → Int32
  recordSeries : Nat → Nat
  firsts : Nat → Int64
  seconds : Nat → Int64
  units : Nat → Nat
  recordBlocks : Nat → Nat
  records : Nat
  kept : Nat
  block : Nat
  used : Nat
  fresh : Bool
  labels : Nat → Nat
  labelCount : Nat
  kind : Int32
  frm : Nat
  too : Nat
  amount : Int64
  tableNames : Nat → Nat
  nameFroms : Nat → Nat
  nameLengths : Nat → Nat
  tableRows : Nat → Nat
  rowSeries : Nat → Nat
  cells : Nat → Int64
  isCell : Nat → Bool
  pile : Nat
  works : Bool
  windowsFrom : Int64
  width : Int64
  windows : Nat
  valueLength : Nat
  rowOf : Nat → Int32
  keyTimes : Nat → Int64
  keySeries : Nat → Nat
  befores : Nat → Int64
  hasBefore : Nat → Bool
  signs : Nat → Nat
  signPlaces : Nat → Nat
  signCount : Nat
  opn : Nat
  wants : Bool
  isTable : Bool
  names : Nat
  rows : Nat
  shownWindows : Nat
  rowTexts : Nat → Int32
  rowLengths : Nat → Nat
  shown : Nat → Int64
  isShown : Nat → Bool
def mF (ad : Nat → Nat) (x : MS) : List Value := [.int x.cod, .ref (ad 1), .int (nI x.length), .int x.faultCode, .int x.faultPlace, .int (nI x.blocks), .int (nI x.journal), .int (bI x.on), .int x.cutLeft, .int (nI x.written), .ref (ad 10), .ref (ad 11), .int (nI x.seriesCount), .ref (ad 13), .int (nI x.baseSeries), .ref (ad 15), .int (nI x.catalogBlocks), .ref (ad 17), .ref (ad 18), .ref (ad 19), .ref (ad 20), .ref (ad 21), .ref (ad 22), .int (nI x.points), .long x.horizon, .long x.baseHorizon, .ref (ad 26), .ref (ad 27), .int (nI x.parcelCount), .int (nI x.parcelNumber), .int (nI x.deletes), .ref (ad 31), .ref (ad 32), .ref (ad 33), .ref (ad 34), .ref (ad 35), .ref (ad 36), .int (nI x.records), .int (nI x.kept), .int (nI x.block), .int (nI x.used), .int (bI x.fresh), .ref (ad 42), .int (nI x.labelCount), .int x.kind, .int (nI x.frm), .int (nI x.too), .long x.amount, .ref (ad 48), .ref (ad 49), .ref (ad 50), .ref (ad 51), .ref (ad 52), .ref (ad 53), .ref (ad 54), .int (nI x.pile), .int (bI x.works), .long x.windowsFrom, .long x.width, .int (nI x.windows), .int (nI x.valueLength), .ref (ad 61), .ref (ad 62), .ref (ad 63), .ref (ad 64), .ref (ad 65), .ref (ad 66), .ref (ad 67), .int (nI x.signCount), .int (nI x.opn), .int (bI x.wants), .int (bI x.isTable), .int (nI x.names), .int (nI x.rows), .int (nI x.shownWindows), .ref (ad 75), .ref (ad 76), .ref (ad 77), .ref (ad 78)]
def MW (dA : Nat → ClassId) (h : Nat) (ad : Nat → Nat) (x : MS) : va_W := [(h, .inr (9, mF ad x)), (ad 1, .inl (dA 0, 65536, .inl x.tape)), (ad 10, .inl (dA 0, 78128, .inl x.texts)), (ad 11, .inl (dA 1, 256, .inl (fun k => nI (x.textLengths k)))), (ad 13, .inl (dA 2, 256, .inr (.inl x.lasts))), (ad 15, .inl (dA 2, 256, .inr (.inl x.baseLasts))), (ad 17, .inl (dA 1, 12000, .inl (fun k => nI (x.pointSeries k)))), (ad 18, .inl (dA 2, 12000, .inr (.inl x.pointTimes))), (ad 19, .inl (dA 2, 12000, .inr (.inl x.pointValues))), (ad 20, .inl (dA 1, 12000, .inl x.places)), (ad 21, .inl (dA 1, 12000, .inl x.hidden)), (ad 22, .inl (dA 1, 12000, .inl x.baseHidden)), (ad 26, .inl (dA 1, 40, .inl (fun k => nI (x.parcels k)))), (ad 27, .inl (dA 1, 40, .inl (fun k => nI (x.parcelBlocks k)))), (ad 31, .inl (dA 0, 32000, .inl x.kinds)), (ad 32, .inl (dA 1, 32000, .inl (fun k => nI (x.recordSeries k)))), (ad 33, .inl (dA 2, 32000, .inr (.inl x.firsts))), (ad 34, .inl (dA 2, 32000, .inr (.inl x.seconds))), (ad 35, .inl (dA 1, 32000, .inl (fun k => nI (x.units k)))), (ad 36, .inl (dA 1, 32000, .inl (fun k => nI (x.recordBlocks k)))), (ad 42, .inl (dA 1, 28, .inl (fun k => nI (x.labels k)))), (ad 48, .inl (dA 1, 20, .inl (fun k => nI (x.tableNames k)))), (ad 49, .inl (dA 1, 120, .inl (fun k => nI (x.nameFroms k)))), (ad 50, .inl (dA 1, 120, .inl (fun k => nI (x.nameLengths k)))), (ad 51, .inl (dA 1, 20, .inl (fun k => nI (x.tableRows k)))), (ad 52, .inl (dA 1, 5120, .inl (fun k => nI (x.rowSeries k)))), (ad 53, .inl (dA 2, 327680, .inr (.inl x.cells))), (ad 54, .inl (dA 3, 327680, .inl (fun k => bI (x.isCell k)))), (ad 61, .inl (dA 1, 256, .inl x.rowOf)), (ad 62, .inl (dA 2, 16384, .inr (.inl x.keyTimes))), (ad 63, .inl (dA 1, 16384, .inl (fun k => nI (x.keySeries k)))), (ad 64, .inl (dA 2, 256, .inr (.inl x.befores))), (ad 65, .inl (dA 3, 256, .inl (fun k => bI (x.hasBefore k)))), (ad 66, .inl (dA 1, 32, .inl (fun k => nI (x.signs k)))), (ad 67, .inl (dA 1, 32, .inl (fun k => nI (x.signPlaces k)))), (ad 75, .inl (dA 0, 36864, .inl x.rowTexts)), (ad 76, .inl (dA 1, 1536, .inl (fun k => nI (x.rowLengths k)))), (ad 77, .inl (dA 2, 16384, .inr (.inl x.shown))), (ad 78, .inl (dA 3, 16384, .inl (fun k => bI (x.isShown k))))]
theorem cvP {D : va_G} {dA : Nat → ClassId} {h : Nat} {ad : Nat → Nat} {H : Heap} {x y : MS} (e : x = y) (hP : va_P D vwCl (MW dA h ad x) H) : va_P D vwCl (MW dA h ad y) H := e ▸ hP
theorem cvD {A : Nat → Prop} {dA : Nat → ClassId} {h : Nat} {ad : Nat → Nat} {x y : MS} (e : x = y) (hD : va_D A (MW dA h ad x)) : va_D A (MW dA h ad y) := e ▸ hD
